set_option maxRecDepth 100000 in
set_option maxHeartbeats 4000000 in
theorem fTp_rateChild_ok {d : Nat} (hd : 0 ≤ d) (mem : zkM) (a1 : Int32) (z : Int32 × zkM) (h : fTp_rateChild mem a1 = some z) : zk_X zSX d zY_X11_rateChild [.ref 0, .int a1] mem (some (.int z.1), z.2) := by
  unfold fTp_rateChild at h
  refine zk_meet (n := 0) (lv := [some (.ref 0), some (.int a1)]) zpn_X11 rfl (Nat.le_of_ble_eq_true rfl) ?_
  refine zk_aload_n (i := 0) dX11_rateChild_0 rfl rfl ?_
  refine zk_dup dX11_rateChild_1 rfl ?_
  refine zk_getL 0 11 12 dX11_rateChild_2 zf_X11_89 (Nat.le_of_ble_eq_true rfl) rfl rfl ?_
  refine zk_lconst (v := 1) dX11_rateChild_5 rfl ?_
  refine zk_ladd dX11_rateChild_6 ?_
  obtain ⟨m1, em1, h⟩ := zk_lt h
  refine zk_putL' 0 11 12 dX11_rateChild_7 zp_X11_89 (Nat.le_of_ble_eq_true rfl) rfl rfl em1 ?_
  refine zk_aload_n (i := 0) dX11_rateChild_10 rfl rfl ?_
  refine zk_getR 0 11 10 dX11_rateChild_11 zf_X11_82 (Nat.le_of_ble_eq_true rfl) rfl rfl ?_
  refine zk_getR 46 10 9 dX11_rateChild_14 zf_X11_169 (Nat.le_of_ble_eq_true rfl) rfl rfl ?_
  refine zk_iload_n (i := 1) dX11_rateChild_17 rfl rfl ?_
  obtain ⟨b2, h⟩ := zk_gd h
  refine zk_iaload 53 5 dX11_rateChild_18 (Nat.le_of_ble_eq_true rfl) rfl (zk_inb_in b2) ?_
  exact zk_ireturn dX11_rateChild_19 rfl (zk_rIw (Option.some.inj h))
set_option maxRecDepth 100000 in
set_option maxHeartbeats 4000000 in
theorem fTp_rateClimber_ok {d : Nat} (hd : 2 ≤ d) (mem : zkM) (a1 : Int32) (z : Int32 × zkM) (h : fTp_rateClimber mem a1 = some z) : zk_X zSX d zY_X11_rateClimber [.ref 0, .int a1] mem (some (.int z.1), z.2) := by
  unfold fTp_rateClimber at h
  refine zk_meet (n := 2) (lv := [some (.ref 0), some (.int a1), none, none]) zpn_X11 rfl (Nat.le_of_ble_eq_true rfl) ?_
  refine zk_aload_n (i := 0) dX11_rateClimber_0 rfl rfl ?_
  refine zk_dup dX11_rateClimber_1 rfl ?_
  refine zk_getL 0 11 12 dX11_rateClimber_2 zf_X11_89 (Nat.le_of_ble_eq_true rfl) rfl rfl ?_
  refine zk_ldc2 dX11_rateClimber_5 zd_X11_347 ?_
  refine zk_ladd dX11_rateClimber_8 ?_
  obtain ⟨m1, em1, h⟩ := zk_lt h
  refine zk_putL' 0 11 12 dX11_rateClimber_9 zp_X11_89 (Nat.le_of_ble_eq_true rfl) rfl rfl em1 ?_
  refine zk_aload_n (i := 0) dX11_rateClimber_12 rfl rfl ?_
  refine zk_getR 0 11 1 dX11_rateClimber_13 zf_X11_19 (Nat.le_of_ble_eq_true rfl) rfl rfl ?_
  refine zk_iload_n (i := 1) dX11_rateClimber_16 rfl rfl ?_
  obtain ⟨q2, hq2, h⟩ := zk_ob h
  refine zk_callVi zY_X8_plankUnder 4 8 [_] dX11_rateClimber_17 zl_X8_plankUnder zc_X11_175 zk_ok8 (Nat.le_of_ble_eq_true rfl) rfl (fScene_plankUnder_ok (d := 0) (Nat.le_refl _) m1 _ _ hq2) (Nat.lt_of_lt_of_le (by decide) hd) (Nat.le_of_ble_eq_true rfl) ?_
  refine zk_istore_n (i := 2) dX11_rateClimber_20 rfl (Nat.le_of_ble_eq_true rfl) rfl ?_
  refine zk_aload_n (i := 0) dX11_rateClimber_21 rfl rfl ?_
  refine zk_iload_n (i := 2) dX11_rateClimber_22 rfl rfl ?_
  refine zk_callVi zY_X11_isPlank 0 11 [_] dX11_rateClimber_23 zl_X11_isPlank zc_X11_140 zk_ok11 (Nat.le_of_ble_eq_true rfl) rfl (fTp_isPlank_ok (d := 1) (Nat.le_refl _) m1 _ _ rfl) (Nat.lt_of_lt_of_le (by decide) hd) (Nat.le_of_ble_eq_true rfl) ?_
  obtain ⟨q3, hq3, h⟩ := zk_ob h
  have Jq3 : zk_J zSX d zY_X11_rateClimber (zk_R zSX (some (.int z.1), z.2)) 52 [some (.ref 0), some (.int a1), none, none] [.int q3] m1 := by
    refine zk_istore_n (i := 3) dX11_rateClimber_52 rfl (Nat.le_of_ble_eq_true rfl) rfl ?_
    refine zk_aload_n (i := 0) dX11_rateClimber_53 rfl rfl ?_
    refine zk_iload_n (i := 1) dX11_rateClimber_54 rfl rfl ?_
    obtain ⟨q7, hq7, h⟩ := zk_ob h
    refine zk_callVi zY_X11_rateChild 0 11 [_] dX11_rateClimber_55 zl_X11_rateChild zc_X11_310 zk_ok11 (Nat.le_of_ble_eq_true rfl) rfl (fTp_rateChild_ok (d := 0) (Nat.le_refl _) m1 _ _ hq7) (Nat.lt_of_lt_of_le (by decide) hd) (Nat.le_of_ble_eq_true rfl) ?_
    refine zk_iload_n (i := 3) dX11_rateClimber_58 rfl rfl ?_
    refine zk_iadd dX11_rateClimber_59 ?_
    exact zk_ireturn dX11_rateClimber_60 rfl (zk_rIw (Option.some.inj h))
  have h := hq3
  clear hq3
  refine zk_if_eq 51 dX11_rateClimber_26 rfl (fun c6 => ?_) (fun c6 => ?_)
  · have h := zk_it _ h c6
    refine zk_iconst dX11_rateClimber_51 zki_0 ?_
    cases h
    exact zk_weak (zk_leS (zk_leS (zk_leN (zk_leN zk_leE)))) Jq3
  · have h := zk_if _ h c6
    refine zk_aload_n (i := 0) dX11_rateClimber_29 rfl rfl ?_
    refine zk_getR 0 11 10 dX11_rateClimber_30 zf_X11_82 (Nat.le_of_ble_eq_true rfl) rfl rfl ?_
    refine zk_getR 46 10 3 dX11_rateClimber_33 zf_X11_123 (Nat.le_of_ble_eq_true rfl) rfl rfl ?_
    refine zk_aload_n (i := 0) dX11_rateClimber_36 rfl rfl ?_
    refine zk_getR 0 11 10 dX11_rateClimber_37 zf_X11_82 (Nat.le_of_ble_eq_true rfl) rfl rfl ?_
    refine zk_getR 46 10 7 dX11_rateClimber_40 zf_X11_143 (Nat.le_of_ble_eq_true rfl) rfl rfl ?_
    refine zk_iconst dX11_rateClimber_43 zki_2 ?_
    refine zk_iload_n (i := 2) dX11_rateClimber_44 rfl rfl ?_
    refine zk_imul dX11_rateClimber_45 ?_
    obtain ⟨b4, h⟩ := zk_gd h
    refine zk_iaload 51 12 dX11_rateClimber_46 (Nat.le_of_ble_eq_true rfl) rfl (zk_inb_in b4) ?_
    obtain ⟨b5, h⟩ := zk_gd h
    refine zk_iaload 47 8 dX11_rateClimber_47 (Nat.le_of_ble_eq_true rfl) rfl (zk_inb_in b5) ?_
    refine zk_goto 52 dX11_rateClimber_48 rfl ?_
    cases h
    exact zk_weak (zk_leS (zk_leS (zk_leN (zk_leN zk_leE)))) Jq3
set_option maxRecDepth 100000 in
set_option maxHeartbeats 4000000 in
theorem fTp_rateGuest_ok {d : Nat} (hd : 1 ≤ d) (mem : zkM) (a1 : Int32) (z : Int32 × zkM) (h : fTp_rateGuest mem a1 = some z) : zk_X zSX d zY_X11_rateGuest [.ref 0, .int a1] mem (some (.int z.1), z.2) := by
  unfold fTp_rateGuest at h
  refine zk_meet (n := 0) (lv := [some (.ref 0), some (.int a1)]) zpn_X11 rfl (Nat.le_of_ble_eq_true rfl) ?_
  refine zk_aload_n (i := 0) dX11_rateGuest_0 rfl rfl ?_
  refine zk_dup dX11_rateGuest_1 rfl ?_
  refine zk_getL 0 11 12 dX11_rateGuest_2 zf_X11_89 (Nat.le_of_ble_eq_true rfl) rfl rfl ?_
  refine zk_ldc2 dX11_rateGuest_5 zd_X11_349 ?_
  refine zk_ladd dX11_rateGuest_8 ?_
  obtain ⟨m1, em1, h⟩ := zk_lt h
  refine zk_putL' 0 11 12 dX11_rateGuest_9 zp_X11_89 (Nat.le_of_ble_eq_true rfl) rfl rfl em1 ?_
  refine zk_aload_n (i := 0) dX11_rateGuest_12 rfl rfl ?_
  refine zk_iload_n (i := 1) dX11_rateGuest_13 rfl rfl ?_
  obtain ⟨q2, hq2, h⟩ := zk_ob h
  refine zk_callVi zY_X11_rateChild 0 11 [_] dX11_rateGuest_14 zl_X11_rateChild zc_X11_310 zk_ok11 (Nat.le_of_ble_eq_true rfl) rfl (fTp_rateChild_ok (d := 0) (Nat.le_refl _) m1 _ _ hq2) (Nat.lt_of_lt_of_le (by decide) hd) (Nat.le_of_ble_eq_true rfl) ?_
  refine zk_aload_n (i := 0) dX11_rateGuest_17 rfl rfl ?_
  refine zk_getR 0 11 10 dX11_rateGuest_18 zf_X11_82 (Nat.le_of_ble_eq_true rfl) rfl rfl ?_
  refine zk_getR 46 10 10 dX11_rateGuest_21 zf_X11_172 (Nat.le_of_ble_eq_true rfl) rfl rfl ?_
  refine zk_iload_n (i := 1) dX11_rateGuest_24 rfl rfl ?_
  obtain ⟨b3, h⟩ := zk_gd h
  refine zk_iaload 54 5 dX11_rateGuest_25 (Nat.le_of_ble_eq_true rfl) rfl (zk_inb_in b3) ?_
  refine zk_isub dX11_rateGuest_26 ?_
  exact zk_ireturn dX11_rateGuest_27 rfl (zk_rIw (Option.some.inj h))
set_option maxRecDepth 100000 in
set_option maxHeartbeats 4000000 in
theorem fTp_rateCaptain_ok {d : Nat} (hd : 3 ≤ d) (mem : zkM) (a1 : Int32) (z : Int32 × zkM) (h : fTp_rateCaptain mem a1 = some z) : zk_X zSX d zY_X11_rateCaptain [.ref 0, .int a1] mem (some (.int z.1), z.2) := by
  unfold fTp_rateCaptain at h
  refine zk_meet (n := 0) (lv := [some (.ref 0), some (.int a1)]) zpn_X11 rfl (Nat.le_of_ble_eq_true rfl) ?_
  refine zk_aload_n (i := 0) dX11_rateCaptain_0 rfl rfl ?_
  refine zk_dup dX11_rateCaptain_1 rfl ?_
  refine zk_getL 0 11 12 dX11_rateCaptain_2 zf_X11_89 (Nat.le_of_ble_eq_true rfl) rfl rfl ?_
  refine zk_ldc2 dX11_rateCaptain_5 zd_X11_351 ?_
  refine zk_ladd dX11_rateCaptain_8 ?_
  obtain ⟨m1, em1, h⟩ := zk_lt h
  refine zk_putL' 0 11 12 dX11_rateCaptain_9 zp_X11_89 (Nat.le_of_ble_eq_true rfl) rfl rfl em1 ?_
  refine zk_iconst dX11_rateCaptain_12 zki_2 ?_
  refine zk_aload_n (i := 0) dX11_rateCaptain_13 rfl rfl ?_
  refine zk_iload_n (i := 1) dX11_rateCaptain_14 rfl rfl ?_
  obtain ⟨q2, hq2, h⟩ := zk_ob h
  refine zk_callVi zY_X11_rateClimber 0 11 [_] dX11_rateCaptain_15 zl_X11_rateClimber zc_X11_313 zk_ok11 (Nat.le_of_ble_eq_true rfl) rfl (fTp_rateClimber_ok (d := 2) (Nat.le_refl _) m1 _ _ hq2) (Nat.lt_of_lt_of_le (by decide) hd) (Nat.le_of_ble_eq_true rfl) ?_
  refine zk_imul dX11_rateCaptain_18 ?_
  exact zk_ireturn dX11_rateCaptain_19 rfl (zk_rIw (Option.some.inj h))
set_option maxRecDepth 100000 in
set_option maxHeartbeats 4000000 in
theorem fTp_rateNeighbour_ok {d : Nat} (hd : 2 ≤ d) (mem : zkM) (a1 : Int32) (z : Int32 × zkM) (h : fTp_rateNeighbour mem a1 = some z) : zk_X zSX d zY_X11_rateNeighbour [.ref 0, .int a1] mem (some (.int z.1), z.2) := by
  unfold fTp_rateNeighbour at h
  refine zk_meet (n := 0) (lv := [some (.ref 0), some (.int a1)]) zpn_X11 rfl (Nat.le_of_ble_eq_true rfl) ?_
  refine zk_aload_n (i := 0) dX11_rateNeighbour_0 rfl rfl ?_
  refine zk_dup dX11_rateNeighbour_1 rfl ?_
  refine zk_getL 0 11 12 dX11_rateNeighbour_2 zf_X11_89 (Nat.le_of_ble_eq_true rfl) rfl rfl ?_
  refine zk_ldc2 dX11_rateNeighbour_5 zd_X11_353 ?_
  refine zk_ladd dX11_rateNeighbour_8 ?_
  obtain ⟨m1, em1, h⟩ := zk_lt h
  refine zk_putL' 0 11 12 dX11_rateNeighbour_9 zp_X11_89 (Nat.le_of_ble_eq_true rfl) rfl rfl em1 ?_
  refine zk_aload_n (i := 0) dX11_rateNeighbour_12 rfl rfl ?_
  refine zk_iload_n (i := 1) dX11_rateNeighbour_13 rfl rfl ?_
  obtain ⟨q2, hq2, h⟩ := zk_ob h
  refine zk_callVi zY_X11_rateGuest 0 11 [_] dX11_rateNeighbour_14 zl_X11_rateGuest zc_X11_316 zk_ok11 (Nat.le_of_ble_eq_true rfl) rfl (fTp_rateGuest_ok (d := 1) (Nat.le_refl _) m1 _ _ hq2) (Nat.lt_of_lt_of_le (by decide) hd) (Nat.le_of_ble_eq_true rfl) ?_
  refine zk_iload_n (i := 1) dX11_rateNeighbour_17 rfl rfl ?_
  refine zk_iadd dX11_rateNeighbour_18 ?_
  exact zk_ireturn dX11_rateNeighbour_19 rfl (zk_rIw (Option.some.inj h))
set_option maxRecDepth 100000 in
set_option maxHeartbeats 4000000 in
theorem fTp_rateSister_ok {d : Nat} (hd : 3 ≤ d) (mem : zkM) (a1 : Int32) (z : Int32 × zkM) (h : fTp_rateSister mem a1 = some z) : zk_X zSX d zY_X11_rateSister [.ref 0, .int a1] mem (some (.int z.1), z.2) := by
  unfold fTp_rateSister at h
  refine zk_meet (n := 0) (lv := [some (.ref 0), some (.int a1)]) zpn_X11 rfl (Nat.le_of_ble_eq_true rfl) ?_
  refine zk_aload_n (i := 0) dX11_rateSister_0 rfl rfl ?_
  refine zk_dup dX11_rateSister_1 rfl ?_
  refine zk_getL 0 11 12 dX11_rateSister_2 zf_X11_89 (Nat.le_of_ble_eq_true rfl) rfl rfl ?_
  refine zk_ldc2 dX11_rateSister_5 zd_X11_355 ?_
  refine zk_ladd dX11_rateSister_8 ?_
  obtain ⟨m1, em1, h⟩ := zk_lt h
  refine zk_putL' 0 11 12 dX11_rateSister_9 zp_X11_89 (Nat.le_of_ble_eq_true rfl) rfl rfl em1 ?_
  refine zk_aload_n (i := 0) dX11_rateSister_12 rfl rfl ?_
  refine zk_iload_n (i := 1) dX11_rateSister_13 rfl rfl ?_
  obtain ⟨q2, hq2, h⟩ := zk_ob h
  refine zk_callVi zY_X11_rateChild 0 11 [_] dX11_rateSister_14 zl_X11_rateChild zc_X11_310 zk_ok11 (Nat.le_of_ble_eq_true rfl) rfl (fTp_rateChild_ok (d := 0) (Nat.le_refl _) m1 _ _ hq2) (Nat.lt_of_lt_of_le (by decide) hd) (Nat.le_of_ble_eq_true rfl) ?_
  refine zk_aload_n (i := 0) dX11_rateSister_17 rfl rfl ?_
  refine zk_getR 0 11 1 dX11_rateSister_18 zf_X11_19 (Nat.le_of_ble_eq_true rfl) rfl rfl ?_
  refine zk_aload_n (i := 0) dX11_rateSister_21 rfl rfl ?_
  refine zk_getR 0 11 10 dX11_rateSister_22 zf_X11_82 (Nat.le_of_ble_eq_true rfl) rfl rfl ?_
  obtain ⟨q3, hq3, h⟩ := zk_ob h
  refine zk_callVi zY_X8_outs 4 8 [_] dX11_rateSister_25 zl_X8_outs zc_X11_214 zk_ok8 (Nat.le_of_ble_eq_true rfl) rfl (fScene_outs_ok (d := 2) (Nat.le_refl _) q2.2  _ hq3) (Nat.lt_of_lt_of_le (by decide) hd) (Nat.le_of_ble_eq_true rfl) ?_
  refine zk_iadd dX11_rateSister_28 ?_
  exact zk_ireturn dX11_rateSister_29 rfl (zk_rIw (Option.some.inj h))
set_option maxRecDepth 100000 in
set_option maxHeartbeats 4000000 in
theorem fTp_rate_ok {d : Nat} (hd : 4 ≤ d) (mem : zkM) (a1 : Int32) (a2 : Int32) (z : Int32 × zkM) (h : fTp_rate mem a1 a2 = some z) : zk_X zSX d zY_X11_rate [.ref 0, .int a1, .int a2] mem (some (.int z.1), z.2) := by
  unfold fTp_rate at h
  refine zk_meet (n := 0) (lv := [some (.ref 0), some (.int a1), some (.int a2)]) zpn_X11 rfl (Nat.le_of_ble_eq_true rfl) ?_
  refine zk_aload_n (i := 0) dX11_rate_0 rfl rfl ?_
  refine zk_iload_n (i := 2) dX11_rate_1 rfl rfl ?_
  refine zk_callVi zY_X11_isChild 0 11 [_] dX11_rate_2 zl_X11_isChild zc_X11_166 zk_ok11 (Nat.le_of_ble_eq_true rfl) rfl (fTp_isChild_ok (d := 1) (Nat.le_refl _) mem _ _ rfl) (Nat.lt_of_lt_of_le (by decide) hd) (Nat.le_of_ble_eq_true rfl) ?_
  refine zk_if_ne 12 dX11_rate_5 rfl (fun c13 => ?_) (fun c13 => ?_)
  · have h := zk_if _ h c13
    refine zk_iload_n (i := 1) dX11_rate_12 rfl rfl ?_
    rcases Decidable.em (a1 = (0 : Int32)) with c1 | c1
    · have h := zk_it _ h c1
      refine zk_tin (off := 39) 52 dX11_rate_13 c1 (by decide) (by decide) (by decide) rfl ?_
      refine zk_aload_n (i := 0) dX11_rate_52 rfl rfl ?_
      refine zk_iload_n (i := 2) dX11_rate_53 rfl rfl ?_
      obtain ⟨q2, hq2, h⟩ := zk_ob h
      refine zk_callVi zY_X11_rateChild 0 11 [_] dX11_rate_54 zl_X11_rateChild zc_X11_310 zk_ok11 (Nat.le_of_ble_eq_true rfl) rfl (fTp_rateChild_ok (d := 0) (Nat.le_refl _) mem _ _ hq2) (Nat.lt_of_lt_of_le (by decide) hd) (Nat.le_of_ble_eq_true rfl) ?_
      exact zk_ireturn dX11_rate_57 rfl (zk_rIw (Option.some.inj h))
    · have h := zk_if _ h c1
      rcases Decidable.em (a1 = (1 : Int32)) with c3 | c3
      · have h := zk_it _ h c3
        refine zk_tin (off := 45) 58 dX11_rate_13 c3 (by decide) (by decide) (by decide) rfl ?_
        refine zk_aload_n (i := 0) dX11_rate_58 rfl rfl ?_
        refine zk_iload_n (i := 2) dX11_rate_59 rfl rfl ?_
        obtain ⟨q4, hq4, h⟩ := zk_ob h
        refine zk_callVi zY_X11_rateClimber 0 11 [_] dX11_rate_60 zl_X11_rateClimber zc_X11_313 zk_ok11 (Nat.le_of_ble_eq_true rfl) rfl (fTp_rateClimber_ok (d := 2) (Nat.le_refl _) mem _ _ hq4) (Nat.lt_of_lt_of_le (by decide) hd) (Nat.le_of_ble_eq_true rfl) ?_
        exact zk_ireturn dX11_rate_63 rfl (zk_rIw (Option.some.inj h))
      · have h := zk_if _ h c3
        rcases Decidable.em (a1 = (2 : Int32)) with c5 | c5
        · have h := zk_it _ h c5
          refine zk_tin (off := 51) 64 dX11_rate_13 c5 (by decide) (by decide) (by decide) rfl ?_
          refine zk_aload_n (i := 0) dX11_rate_64 rfl rfl ?_
          refine zk_iload_n (i := 2) dX11_rate_65 rfl rfl ?_
          obtain ⟨q6, hq6, h⟩ := zk_ob h
          refine zk_callVi zY_X11_rateGuest 0 11 [_] dX11_rate_66 zl_X11_rateGuest zc_X11_316 zk_ok11 (Nat.le_of_ble_eq_true rfl) rfl (fTp_rateGuest_ok (d := 1) (Nat.le_refl _) mem _ _ hq6) (Nat.lt_of_lt_of_le (by decide) hd) (Nat.le_of_ble_eq_true rfl) ?_
          exact zk_ireturn dX11_rate_69 rfl (zk_rIw (Option.some.inj h))
        · have h := zk_if _ h c5
          rcases Decidable.em (a1 = (3 : Int32)) with c7 | c7
          · have h := zk_it _ h c7
            refine zk_tin (off := 57) 70 dX11_rate_13 c7 (by decide) (by decide) (by decide) rfl ?_
            refine zk_aload_n (i := 0) dX11_rate_70 rfl rfl ?_
            refine zk_iload_n (i := 2) dX11_rate_71 rfl rfl ?_
            obtain ⟨q8, hq8, h⟩ := zk_ob h
            refine zk_callVi zY_X11_rateCaptain 0 11 [_] dX11_rate_72 zl_X11_rateCaptain zc_X11_319 zk_ok11 (Nat.le_of_ble_eq_true rfl) rfl (fTp_rateCaptain_ok (d := 3) (Nat.le_refl _) mem _ _ hq8) (Nat.lt_of_lt_of_le (by decide) hd) (Nat.le_of_ble_eq_true rfl) ?_
            exact zk_ireturn dX11_rate_75 rfl (zk_rIw (Option.some.inj h))
          · have h := zk_if _ h c7
            rcases Decidable.em (a1 = (4 : Int32)) with c9 | c9
            · have h := zk_it _ h c9
              refine zk_tin (off := 63) 76 dX11_rate_13 c9 (by decide) (by decide) (by decide) rfl ?_
              refine zk_aload_n (i := 0) dX11_rate_76 rfl rfl ?_
              refine zk_iload_n (i := 2) dX11_rate_77 rfl rfl ?_
              obtain ⟨q10, hq10, h⟩ := zk_ob h
              refine zk_callVi zY_X11_rateNeighbour 0 11 [_] dX11_rate_78 zl_X11_rateNeighbour zc_X11_322 zk_ok11 (Nat.le_of_ble_eq_true rfl) rfl (fTp_rateNeighbour_ok (d := 2) (Nat.le_refl _) mem _ _ hq10) (Nat.lt_of_lt_of_le (by decide) hd) (Nat.le_of_ble_eq_true rfl) ?_
              exact zk_ireturn dX11_rate_81 rfl (zk_rIw (Option.some.inj h))
            · have h := zk_if _ h c9
              rcases Decidable.em (a1 = (5 : Int32)) with c11 | c11
              · have h := zk_it _ h c11
                refine zk_tin (off := 69) 82 dX11_rate_13 c11 (by decide) (by decide) (by decide) rfl ?_
                refine zk_aload_n (i := 0) dX11_rate_82 rfl rfl ?_
                refine zk_iload_n (i := 2) dX11_rate_83 rfl rfl ?_
                obtain ⟨q12, hq12, h⟩ := zk_ob h
                refine zk_callVi zY_X11_rateSister 0 11 [_] dX11_rate_84 zl_X11_rateSister zc_X11_325 zk_ok11 (Nat.le_of_ble_eq_true rfl) rfl (fTp_rateSister_ok (d := 3) (Nat.le_refl _) mem _ _ hq12) (Nat.lt_of_lt_of_le (by decide) hd) (Nat.le_of_ble_eq_true rfl) ?_
                exact zk_ireturn dX11_rate_87 rfl (zk_rIw (Option.some.inj h))
              · have h := zk_if _ h c11
                have hout : (a1).toInt < 0 ∨ 5 < (a1).toInt := by
                  have := lv_neT c1 (a := 0) (by decide)
                  have := lv_neT c3 (a := 1) (by decide)
                  have := lv_neT c5 (a := 2) (by decide)
                  have := lv_neT c7 (a := 3) (by decide)
                  have := lv_neT c9 (a := 4) (by decide)
                  have := lv_neT c11 (a := 5) (by decide)
                  omega
                refine zk_tout 88 dX11_rate_13 hout rfl ?_
                refine zk_ldcw dX11_rate_88 zd_X11_309 ?_
                exact zk_ireturn dX11_rate_91 rfl (zk_rIw (Option.some.inj h))
  · have h := zk_it _ h c13
    refine zk_ldcw dX11_rate_8 zd_X11_309 ?_
    exact zk_ireturn dX11_rate_11 rfl (zk_rIw (Option.some.inj h))
set_option maxRecDepth 100000 in
set_option maxHeartbeats 4000000 in
theorem fAlbum_paint_ok {d : Nat} (hd : 1 ≤ d) (mem : zkM) (a1 : Int32) (z : zkM) (h : fAlbum_paint mem a1 = some z) : zk_X zSX d zY_X0_paint [.ref 21, .int a1, .ref 4] mem (none, z) := by
  unfold fAlbum_paint at h
  refine zk_meet (n := 0) (lv := [some (.ref 21), some (.int a1), some (.ref 4)]) zpn_X0 rfl (Nat.le_of_ble_eq_true rfl) ?_
  refine zk_aload_n (i := 2) dX0_paint_0 rfl rfl ?_
  refine zk_aload_n (i := 0) dX0_paint_1 rfl rfl ?_
  refine zk_getR 21 0 0 dX0_paint_2 zf_X0_13 (Nat.le_of_ble_eq_true rfl) rfl rfl ?_
  refine zk_iload_n (i := 1) dX0_paint_5 rfl rfl ?_
  obtain ⟨b1, h⟩ := zk_gd h
  refine zk_aaload 22 2 dX0_paint_6 (Nat.le_of_ble_eq_true rfl) rfl (zk_inb_in b1) ?_
  obtain ⟨q2, hq2, h⟩ := zk_lt h
  refine zk_callVv zY_X8_copyTo 4 8 [_] dX0_paint_7 zl_X8_copyTo zc_X0_22 zk_ok8 (Nat.le_of_ble_eq_true rfl) rfl (fScene_copyTo_q_ok (d := 0) (Nat.le_refl _) mem _ (zq_22 b1) _ hq2) (Nat.lt_of_lt_of_le (by decide) hd) (Nat.le_of_ble_eq_true rfl) ?_
  refine zk_aload_n (i := 0) dX0_paint_10 rfl rfl ?_
  refine zk_getR 21 0 1 dX0_paint_11 zf_X0_18 (Nat.le_of_ble_eq_true rfl) rfl rfl ?_
  refine zk_iload_n (i := 1) dX0_paint_14 rfl rfl ?_
  refine zk_iconst dX0_paint_15 zki_1 ?_
  obtain ⟨b3, h⟩ := zk_gd h
  obtain ⟨m4, em4, h⟩ := zk_lt h
  refine zk_zastore' 25 2 dX0_paint_16 (Nat.le_of_ble_eq_true rfl) rfl (by decide) (zk_inb_in b3) em4 ?_
  exact zk_vreturn dX0_paint_17 rfl (zk_rVw (Option.some.inj h))
set_option maxRecDepth 100000 in
set_option maxHeartbeats 4000000 in
theorem fTp_keep_ok {d : Nat} (hd : 2 ≤ d) (mem : zkM) (a1 : Int32) (z : Int32 × zkM) (h : fTp_keep mem a1 = some z) : zk_X zSX d zY_X11_keep [.ref 0, .int a1] mem (some (.int z.1), z.2) := by
  unfold fTp_keep at h
  refine zk_meet (n := 0) (lv := [some (.ref 0), some (.int a1)]) zpn_X11 rfl (Nat.le_of_ble_eq_true rfl) ?_
  refine zk_iload_n (i := 1) dX11_keep_0 rfl rfl ?_
  refine zk_iconst dX11_keep_1 zki_0 ?_
  refine zk_iconst dX11_keep_2 zki_1 ?_
  refine zk_callSi zY_X11_within [_, _, _] dX11_keep_3 zl_X11_within zc_X11_93 (fTp_within_ok (d := 0) (Nat.le_refl _) mem _ _ _ _ rfl) (Nat.lt_of_lt_of_le (by decide) hd) (Nat.le_of_ble_eq_true rfl) ?_
  refine zk_if_ne 11 dX11_keep_6 rfl (fun c2 => ?_) (fun c2 => ?_)
  · have h := zk_if _ h c2
    refine zk_aload_n (i := 0) dX11_keep_11 rfl rfl ?_
    refine zk_getR 0 11 4 dX11_keep_12 zf_X11_40 (Nat.le_of_ble_eq_true rfl) rfl rfl ?_
    refine zk_iload_n (i := 1) dX11_keep_15 rfl rfl ?_
    refine zk_aload_n (i := 0) dX11_keep_16 rfl rfl ?_
    refine zk_getR 0 11 1 dX11_keep_17 zf_X11_19 (Nat.le_of_ble_eq_true rfl) rfl rfl ?_
    obtain ⟨q1, hq1, h⟩ := zk_ob h
    refine zk_callVv zY_X0_paint 21 0 [_, _] dX11_keep_20 zl_X0_paint zc_X11_328 zk_ok0 (Nat.le_of_ble_eq_true rfl) rfl (fAlbum_paint_ok (d := 1) (Nat.le_refl _) mem _ _ hq1) (Nat.lt_of_lt_of_le (by decide) hd) (Nat.le_of_ble_eq_true rfl) ?_
    refine zk_aload_n (i := 0) dX11_keep_23 rfl rfl ?_
    refine zk_getR 0 11 1 dX11_keep_24 zf_X11_19 (Nat.le_of_ble_eq_true rfl) rfl rfl ?_
    refine zk_callVi zY_X8_gales 4 8 [] dX11_keep_27 zl_X8_gales zc_X11_192 zk_ok8 (Nat.le_of_ble_eq_true rfl) rfl (fScene_gales_ok (d := 0) (Nat.le_refl _) q1  _ rfl) (Nat.lt_of_lt_of_le (by decide) hd) (Nat.le_of_ble_eq_true rfl) ?_
    exact zk_ireturn dX11_keep_30 rfl (zk_rIw (Option.some.inj h))
  · have h := zk_it _ h c2
    refine zk_iconst dX11_keep_9 zki_m1 ?_
    exact zk_ireturn dX11_keep_10 rfl (zk_rIw (Option.some.inj h))
set_option maxRecDepth 100000 in
set_option maxHeartbeats 4000000 in
theorem fAlbum_show_ok {d : Nat} (hd : 1 ≤ d) (mem : zkM) (a1 : Int32) (z : Bool × zkM) (h : fAlbum_show mem a1 = some z) : zk_X zSX d zY_X0_show [.ref 21, .int a1, .ref 4] mem (some (.int (zk_b z.1)), z.2) := by
  unfold fAlbum_show at h
  refine zk_meet (n := 0) (lv := [some (.ref 21), some (.int a1), some (.ref 4)]) zpn_X0 rfl (Nat.le_of_ble_eq_true rfl) ?_
  refine zk_aload_n (i := 0) dX0_show_0 rfl rfl ?_
  refine zk_getR 21 0 1 dX0_show_1 zf_X0_18 (Nat.le_of_ble_eq_true rfl) rfl rfl ?_
  refine zk_iload_n (i := 1) dX0_show_4 rfl rfl ?_
  obtain ⟨b1, h⟩ := zk_gd h
  refine zk_zaload 25 2 dX0_show_5 (Nat.le_of_ble_eq_true rfl) rfl (zk_inb_in b1) ?_
  refine zk_if_ne 11 dX0_show_6 rfl (fun c4 => ?_) (fun c4 => ?_)
  · have h := zk_if _ h c4
    refine zk_aload_n (i := 2) dX0_show_11 rfl rfl ?_
    refine zk_aload_n (i := 0) dX0_show_12 rfl rfl ?_
    refine zk_getR 21 0 0 dX0_show_13 zf_X0_13 (Nat.le_of_ble_eq_true rfl) rfl rfl ?_
    refine zk_iload_n (i := 1) dX0_show_16 rfl rfl ?_
    obtain ⟨b2, h⟩ := zk_gd h
    refine zk_aaload 22 2 dX0_show_17 (Nat.le_of_ble_eq_true rfl) rfl (zk_inb_in b2) ?_
    obtain ⟨q3, hq3, h⟩ := zk_lt h
    refine zk_callVv zY_X8_copyFrom 4 8 [_] dX0_show_18 zl_X8_copyFrom zc_X0_26 zk_ok8 (Nat.le_of_ble_eq_true rfl) rfl (fScene_copyFrom_q_ok (d := 0) (Nat.le_refl _) mem _ (zq_22 b2) _ hq3) (Nat.lt_of_lt_of_le (by decide) hd) (Nat.le_of_ble_eq_true rfl) ?_
    refine zk_iconst dX0_show_21 zki_1 ?_
    exact zk_zreturn dX0_show_22 rfl rfl (zk_rZw (Option.some.inj h))
  · have h := zk_it _ h c4
    refine zk_iconst dX0_show_9 zki_0 ?_
    exact zk_zreturn dX0_show_10 rfl rfl (zk_rZw (Option.some.inj h))
set_option maxRecDepth 100000 in
set_option maxHeartbeats 4000000 in
theorem fPast_lose_ok {d : Nat} (hd : 0 ≤ d) (mem : zkM) (z : zkM) (h : fPast_lose mem = z) : zk_X zSX d zY_X5_lose [.ref 9] mem (none, z) := by
  unfold fPast_lose at h
  refine zk_meet (n := 0) (lv := [some (.ref 9)]) zpn_X5 rfl (Nat.le_of_ble_eq_true rfl) ?_
  refine zk_aload_n (i := 0) dX5_lose_0 rfl rfl ?_
  refine zk_iconst dX5_lose_1 zki_0 ?_
  obtain ⟨m1, em1, h⟩ := zk_lt h
  refine zk_putI' 9 5 1 dX5_lose_2 zp_X5_18 (Nat.le_of_ble_eq_true rfl) rfl rfl em1 ?_
  refine zk_aload_n (i := 0) dX5_lose_5 rfl rfl ?_
  refine zk_iconst dX5_lose_6 zki_0 ?_
  obtain ⟨m2, em2, h⟩ := zk_lt h
  refine zk_putI' 9 5 2 dX5_lose_7 zp_X5_22 (Nat.le_of_ble_eq_true rfl) rfl rfl em2 ?_
  exact zk_vreturn dX5_lose_10 rfl (zk_rVw h)
set_option maxRecDepth 100000 in
set_option maxHeartbeats 4000000 in
theorem fTp_back_ok {d : Nat} (hd : 2 ≤ d) (mem : zkM) (a1 : Int32) (z : Int32 × zkM) (h : fTp_back mem a1 = some z) : zk_X zSX d zY_X11_back [.ref 0, .int a1] mem (some (.int z.1), z.2) := by
  unfold fTp_back at h
  refine zk_meet (n := 0) (lv := [some (.ref 0), some (.int a1)]) zpn_X11 rfl (Nat.le_of_ble_eq_true rfl) ?_
  refine zk_iload_n (i := 1) dX11_back_0 rfl rfl ?_
  refine zk_iconst dX11_back_1 zki_0 ?_
  refine zk_iconst dX11_back_2 zki_1 ?_
  refine zk_callSi zY_X11_within [_, _, _] dX11_back_3 zl_X11_within zc_X11_93 (fTp_within_ok (d := 0) (Nat.le_refl _) mem _ _ _ _ rfl) (Nat.lt_of_lt_of_le (by decide) hd) (Nat.le_of_ble_eq_true rfl) ?_
  refine zk_if_ne 11 dX11_back_6 rfl (fun c4 => ?_) (fun c4 => ?_)
  · have h := zk_if _ h c4
    refine zk_aload_n (i := 0) dX11_back_11 rfl rfl ?_
    refine zk_getR 0 11 4 dX11_back_12 zf_X11_40 (Nat.le_of_ble_eq_true rfl) rfl rfl ?_
    refine zk_iload_n (i := 1) dX11_back_15 rfl rfl ?_
    refine zk_aload_n (i := 0) dX11_back_16 rfl rfl ?_
    refine zk_getR 0 11 1 dX11_back_17 zf_X11_19 (Nat.le_of_ble_eq_true rfl) rfl rfl ?_
    obtain ⟨q1, hq1, h⟩ := zk_ob h
    refine zk_callVi zY_X0_show 21 0 [_, _] dX11_back_20 zl_X0_show zc_X11_332 zk_ok0 (Nat.le_of_ble_eq_true rfl) rfl (fAlbum_show_ok (d := 1) (Nat.le_refl _) mem _ _ hq1) (Nat.lt_of_lt_of_le (by decide) hd) (Nat.le_of_ble_eq_true rfl) ?_
    refine zk_if_ne 29 dX11_back_23 rfl (fun c3 => ?_) (fun c3 => ?_)
    · have h := zk_if _ h c3
      refine zk_aload_n (i := 0) dX11_back_29 rfl rfl ?_
      refine zk_getR 0 11 3 dX11_back_30 zf_X11_33 (Nat.le_of_ble_eq_true rfl) rfl rfl ?_
      obtain ⟨q2, hq2, h⟩ := zk_lt h
      refine zk_callVv zY_X5_lose 9 5 [] dX11_back_33 zl_X5_lose zc_X11_113 zk_ok5 (Nat.le_of_ble_eq_true rfl) rfl (fPast_lose_ok (d := 0) (Nat.le_refl _) q1.2  _ hq2) (Nat.lt_of_lt_of_le (by decide) hd) (Nat.le_of_ble_eq_true rfl) ?_
      refine zk_aload_n (i := 0) dX11_back_36 rfl rfl ?_
      refine zk_getR 0 11 1 dX11_back_37 zf_X11_19 (Nat.le_of_ble_eq_true rfl) rfl rfl ?_
      refine zk_callVi zY_X8_gales 4 8 [] dX11_back_40 zl_X8_gales zc_X11_192 zk_ok8 (Nat.le_of_ble_eq_true rfl) rfl (fScene_gales_ok (d := 0) (Nat.le_refl _) q2  _ rfl) (Nat.lt_of_lt_of_le (by decide) hd) (Nat.le_of_ble_eq_true rfl) ?_
      exact zk_ireturn dX11_back_43 rfl (zk_rIw (Option.some.inj h))
    · have h := zk_it _ h c3
      refine zk_bipush dX11_back_26 zkb_m2 ?_
      exact zk_ireturn dX11_back_28 rfl (zk_rIw (Option.some.inj h))
  · have h := zk_it _ h c4
    refine zk_iconst dX11_back_9 zki_m1 ?_
    exact zk_ireturn dX11_back_10 rfl (zk_rIw (Option.some.inj h))
set_option maxRecDepth 100000 in
set_option maxHeartbeats 4000000 in
theorem fTp_count_ok {d : Nat} (hd : 3 ≤ d) (mem : zkM) (a1 : Int32) (z : Int32) (h : fTp_count mem a1 = some z) : zk_X zSX d zY_X11_count [.ref 0, .int a1] mem (some (.int z), mem) := by
  unfold fTp_count at h
  refine zk_meet (n := 0) (lv := [some (.ref 0), some (.int a1)]) zpn_X11 rfl (Nat.le_of_ble_eq_true rfl) ?_
  refine zk_iload_n (i := 1) dX11_count_0 rfl rfl ?_
  rcases Decidable.em (a1 = (0 : Int32)) with c1 | c1
  · have h := zk_it _ h c1
    refine zk_tin (off := 39) 40 dX11_count_1 c1 (by decide) (by decide) (by decide) rfl ?_
    refine zk_aload_n (i := 0) dX11_count_40 rfl rfl ?_
    refine zk_getR 0 11 10 dX11_count_41 zf_X11_82 (Nat.le_of_ble_eq_true rfl) rfl rfl ?_
    refine zk_getI 46 10 0 dX11_count_44 zf_X11_120 (Nat.le_of_ble_eq_true rfl) rfl rfl ?_
    exact zk_ireturn dX11_count_47 rfl (zk_rI (Option.some.inj h))
  · have h := zk_if _ h c1
    rcases Decidable.em (a1 = (1 : Int32)) with c2 | c2
    · have h := zk_it _ h c2
      refine zk_tin (off := 47) 48 dX11_count_1 c2 (by decide) (by decide) (by decide) rfl ?_
      refine zk_aload_n (i := 0) dX11_count_48 rfl rfl ?_
      refine zk_getR 0 11 10 dX11_count_49 zf_X11_82 (Nat.le_of_ble_eq_true rfl) rfl rfl ?_
      refine zk_getI 46 10 1 dX11_count_52 zf_X11_283 (Nat.le_of_ble_eq_true rfl) rfl rfl ?_
      exact zk_ireturn dX11_count_55 rfl (zk_rI (Option.some.inj h))
    · have h := zk_if _ h c2
      rcases Decidable.em (a1 = (2 : Int32)) with c3 | c3
      · have h := zk_it _ h c3
        refine zk_tin (off := 55) 56 dX11_count_1 c3 (by decide) (by decide) (by decide) rfl ?_
        refine zk_aload_n (i := 0) dX11_count_56 rfl rfl ?_
        refine zk_getR 0 11 10 dX11_count_57 zf_X11_82 (Nat.le_of_ble_eq_true rfl) rfl rfl ?_
        refine zk_getI 46 10 2 dX11_count_60 zf_X11_336 (Nat.le_of_ble_eq_true rfl) rfl rfl ?_
        exact zk_ireturn dX11_count_63 rfl (zk_rI (Option.some.inj h))
      · have h := zk_if _ h c3
        rcases Decidable.em (a1 = (3 : Int32)) with c4 | c4
        · have h := zk_it _ h c4
          refine zk_tin (off := 63) 64 dX11_count_1 c4 (by decide) (by decide) (by decide) rfl ?_
          refine zk_aload_n (i := 0) dX11_count_64 rfl rfl ?_
          refine zk_getR 0 11 5 dX11_count_65 zf_X11_47 (Nat.le_of_ble_eq_true rfl) rfl rfl ?_
          refine zk_getI 26 7 0 dX11_count_68 zf_X11_117 (Nat.le_of_ble_eq_true rfl) rfl rfl ?_
          exact zk_ireturn dX11_count_71 rfl (zk_rI (Option.some.inj h))
        · have h := zk_if _ h c4
          rcases Decidable.em (a1 = (4 : Int32)) with c5 | c5
          · have h := zk_it _ h c5
            refine zk_tin (off := 71) 72 dX11_count_1 c5 (by decide) (by decide) (by decide) rfl ?_
            refine zk_aload_n (i := 0) dX11_count_72 rfl rfl ?_
            refine zk_getR 0 11 1 dX11_count_73 zf_X11_19 (Nat.le_of_ble_eq_true rfl) rfl rfl ?_
            refine zk_aload_n (i := 0) dX11_count_76 rfl rfl ?_
            refine zk_getR 0 11 10 dX11_count_77 zf_X11_82 (Nat.le_of_ble_eq_true rfl) rfl rfl ?_
            obtain ⟨q6, hq6, h⟩ := zk_ob h
            refine zk_callVi zY_X8_outs 4 8 [_] dX11_count_80 zl_X8_outs zc_X11_214 zk_ok8 (Nat.le_of_ble_eq_true rfl) rfl (fScene_outs_ok (d := 2) (Nat.le_refl _) mem  _ hq6) (Nat.lt_of_lt_of_le (by decide) hd) (Nat.le_of_ble_eq_true rfl) ?_
            exact zk_ireturn dX11_count_83 rfl (zk_rI (Option.some.inj h))
          · have h := zk_if _ h c5
            rcases Decidable.em (a1 = (5 : Int32)) with c7 | c7
            · have h := zk_it _ h c7
              refine zk_tin (off := 83) 84 dX11_count_1 c7 (by decide) (by decide) (by decide) rfl ?_
              refine zk_aload_n (i := 0) dX11_count_84 rfl rfl ?_
              refine zk_getR 0 11 0 dX11_count_85 zf_X11_10 (Nat.le_of_ble_eq_true rfl) rfl rfl ?_
              refine zk_getI 1 9 1 dX11_count_88 zf_X11_101 (Nat.le_of_ble_eq_true rfl) rfl rfl ?_
              exact zk_ireturn dX11_count_91 rfl (zk_rI (Option.some.inj h))
            · have h := zk_if _ h c7
              have hout : (a1).toInt < 0 ∨ 5 < (a1).toInt := by
                have := lv_neT c1 (a := 0) (by decide)
                have := lv_neT c2 (a := 1) (by decide)
                have := lv_neT c3 (a := 2) (by decide)
                have := lv_neT c4 (a := 3) (by decide)
                have := lv_neT c5 (a := 4) (by decide)
                have := lv_neT c7 (a := 5) (by decide)
                omega
              refine zk_tout 92 dX11_count_1 hout rfl ?_
              refine zk_iconst dX11_count_92 zki_m1 ?_
              exact zk_ireturn dX11_count_93 rfl (zk_rI (Option.some.inj h))
set_option maxRecDepth 100000 in
set_option maxHeartbeats 4000000 in
theorem fTp_trace_ok {d : Nat} (hd : 0 ≤ d) (mem : zkM) (z : Int64) (h : fTp_trace mem = z) : zk_X zSX d zY_X11_trace [.ref 0] mem (some (.long z), mem) := by
  unfold fTp_trace at h
  refine zk_meet (n := 0) (lv := [some (.ref 0)]) zpn_X11 rfl (Nat.le_of_ble_eq_true rfl) ?_
  refine zk_aload_n (i := 0) dX11_trace_0 rfl rfl ?_
  refine zk_getL 0 11 12 dX11_trace_1 zf_X11_89 (Nat.le_of_ble_eq_true rfl) rfl rfl ?_
  exact zk_lreturn dX11_trace_4 rfl (zk_rL h)
set_option maxRecDepth 100000 in
set_option maxHeartbeats 4000000 in
theorem fMd_in_ok {d : Nat} (hd : 0 ≤ d) (mem : zkM) (a0 : Int32) (a1 : Int32) (a2 : Int32) (z : Bool) (h : fMd_in a0 a1 a2 = z) : zk_X zSM d zY_X12_in [.int a0, .int a1, .int a2] mem (some (.int (zk_b z)), mem) := by
  unfold fMd_in at h
  refine zk_meet (n := 0) (lv := [some (.int a0), some (.int a1), some (.int a2)]) zpn_X12 rfl (Nat.le_of_ble_eq_true rfl) ?_
  refine zk_iload_n (i := 0) dX12_in_0 rfl rfl ?_
  refine zk_iload_n (i := 1) dX12_in_1 rfl rfl ?_
  refine zk_icmp_lt 14 dX12_in_2 rfl (fun c2 => ?_) (fun c2 => ?_)
  · have h := zk_it _ h c2
    refine zk_iconst dX12_in_14 zki_0 ?_
    exact zk_zreturn dX12_in_15 rfl rfl (zk_rZ h)
  · have h := zk_if _ h c2
    refine zk_iload_n (i := 0) dX12_in_5 rfl rfl ?_
    refine zk_iload_n (i := 2) dX12_in_6 rfl rfl ?_
    refine zk_icmp_gt 14 dX12_in_7 rfl (fun c1 => ?_) (fun c1 => ?_)
    · have h := zk_it _ h c1
      refine zk_iconst dX12_in_14 zki_0 ?_
      exact zk_zreturn dX12_in_15 rfl rfl (zk_rZ h)
    · have h := zk_if _ h c1
      refine zk_iconst dX12_in_10 zki_1 ?_
      refine zk_goto 15 dX12_in_11 rfl ?_
      exact zk_zreturn dX12_in_15 rfl rfl (zk_rZ h)
set_option maxRecDepth 100000 in
set_option maxHeartbeats 4000000 in
theorem fMd_type_ok {d : Nat} (hd : 1 ≤ d) (mem : zkM) (a1 : Int32) (z : Int32 × zkM) (h : fMd_type mem a1 = some z) : zk_X zSM d zY_X12_type [.ref 0, .int a1] mem (some (.int z.1), z.2) := by
  unfold fMd_type at h
  refine zk_meet (n := 0) (lv := [some (.ref 0), some (.int a1)]) zpn_X12 rfl (Nat.le_of_ble_eq_true rfl) ?_
  refine zk_iload_n (i := 1) dX12_type_0 rfl rfl ?_
  refine zk_iconst dX12_type_1 zki_0 ?_
  refine zk_sipush dX12_type_2 zks_255 ?_
  refine zk_callSi zY_X12_in [_, _, _] dX12_type_5 zl_X12_in zc_X12_73 (fMd_in_ok (d := 0) (Nat.le_refl _) mem _ _ _ _ rfl) (Nat.lt_of_lt_of_le (by decide) hd) (Nat.le_of_ble_eq_true rfl) ?_
  refine zk_if_ne 13 dX12_type_8 rfl (fun c5 => ?_) (fun c5 => ?_)
  · have h := zk_if _ h c5
    refine zk_aload_n (i := 0) dX12_type_13 rfl rfl ?_
    refine zk_getI 0 12 15 dX12_type_14 zf_X12_83 (Nat.le_of_ble_eq_true rfl) rfl rfl ?_
    refine zk_sipush dX12_type_17 zks_200 ?_
    refine zk_icmp_ne 26 dX12_type_20 rfl (fun c4 => ?_) (fun c4 => ?_)
    · have h := zk_if _ h c4
      refine zk_aload_n (i := 0) dX12_type_26 rfl rfl ?_
      refine zk_getR 0 12 14 dX12_type_27 zf_X12_35 (Nat.le_of_ble_eq_true rfl) rfl rfl ?_
      refine zk_aload_n (i := 0) dX12_type_30 rfl rfl ?_
      refine zk_getI 0 12 15 dX12_type_31 zf_X12_83 (Nat.le_of_ble_eq_true rfl) rfl rfl ?_
      refine zk_iload_n (i := 1) dX12_type_34 rfl rfl ?_
      obtain ⟨b1, h⟩ := zk_gd h
      obtain ⟨m2, em2, h⟩ := zk_lt h
      refine zk_iastore' 9 200 dX12_type_35 (Nat.le_of_ble_eq_true rfl) rfl (zk_inb_in b1) em2 ?_
      refine zk_aload_n (i := 0) dX12_type_36 rfl rfl ?_
      refine zk_dup dX12_type_37 rfl ?_
      refine zk_getI 0 12 15 dX12_type_38 zf_X12_83 (Nat.le_of_ble_eq_true rfl) rfl rfl ?_
      refine zk_iconst dX12_type_41 zki_1 ?_
      refine zk_iadd dX12_type_42 ?_
      obtain ⟨m3, em3, h⟩ := zk_lt h
      refine zk_putI' 0 12 15 dX12_type_43 zp_X12_83 (Nat.le_of_ble_eq_true rfl) rfl rfl em3 ?_
      refine zk_aload_n (i := 0) dX12_type_46 rfl rfl ?_
      refine zk_getI 0 12 15 dX12_type_47 zf_X12_83 (Nat.le_of_ble_eq_true rfl) rfl rfl ?_
      exact zk_ireturn dX12_type_50 rfl (zk_rIw (Option.some.inj h))
    · have h := zk_it _ h c4
      refine zk_bipush dX12_type_23 zkb_m3 ?_
      exact zk_ireturn dX12_type_25 rfl (zk_rIw (Option.some.inj h))
  · have h := zk_it _ h c5
    refine zk_iconst dX12_type_11 zki_m1 ?_
    exact zk_ireturn dX12_type_12 rfl (zk_rIw (Option.some.inj h))
set_option maxRecDepth 100000 in
set_option maxHeartbeats 4000000 in
theorem fMd_clear_ok {d : Nat} (hd : 0 ≤ d) (mem : zkM) (z : Int32 × zkM) (h : fMd_clear mem = z) : zk_X zSM d zY_X12_clear [.ref 0] mem (some (.int z.1), z.2) := by
  unfold fMd_clear at h
  refine zk_meet (n := 1) (lv := [some (.ref 0), none]) zpn_X12 rfl (Nat.le_of_ble_eq_true rfl) ?_
  refine zk_aload_n (i := 0) dX12_clear_0 rfl rfl ?_
  refine zk_getI 0 12 15 dX12_clear_1 zf_X12_83 (Nat.le_of_ble_eq_true rfl) rfl rfl ?_
  obtain ⟨v1, ev1, h⟩ := zk_lt h
  refine zk_istore_n' (i := 1) dX12_clear_4 rfl ev1 (Nat.le_of_ble_eq_true rfl) rfl ?_
  refine zk_aload_n (i := 0) dX12_clear_5 rfl rfl ?_
  refine zk_iconst dX12_clear_6 zki_0 ?_
  obtain ⟨m2, em2, h⟩ := zk_lt h
  refine zk_putI' 0 12 15 dX12_clear_7 zp_X12_83 (Nat.le_of_ble_eq_true rfl) rfl rfl em2 ?_
  refine zk_iload_n (i := 1) dX12_clear_10 rfl rfl ?_
  exact zk_ireturn dX12_clear_11 rfl (zk_rIw h)
set_option maxRecDepth 100000 in
set_option maxHeartbeats 4000000 in
theorem fMd_letterAt_ok {d : Nat} (hd : 0 ≤ d) (mem : zkM) (a1 : Int32) (z : Int32) (h : fMd_letterAt mem a1 = some z) : zk_X zSM d zY_X12_letterAt [.ref 0, .int a1] mem (some (.int z), mem) := by
  unfold fMd_letterAt at h
  refine zk_meet (n := 0) (lv := [some (.ref 0), some (.int a1)]) zpn_X12 rfl (Nat.le_of_ble_eq_true rfl) ?_
  refine zk_iload_n (i := 1) dX12_letterAt_0 rfl rfl ?_
  refine zk_aload_n (i := 0) dX12_letterAt_1 rfl rfl ?_
  refine zk_getI 0 12 15 dX12_letterAt_2 zf_X12_83 (Nat.le_of_ble_eq_true rfl) rfl rfl ?_
  refine zk_icmp_ge 17 dX12_letterAt_5 rfl (fun c2 => ?_) (fun c2 => ?_)
  · have h := zk_it _ h c2
    refine zk_iconst dX12_letterAt_17 zki_m1 ?_
    exact zk_ireturn dX12_letterAt_18 rfl (zk_rI (Option.some.inj h))
  · have h := zk_if _ h c2
    refine zk_aload_n (i := 0) dX12_letterAt_8 rfl rfl ?_
    refine zk_getR 0 12 14 dX12_letterAt_9 zf_X12_35 (Nat.le_of_ble_eq_true rfl) rfl rfl ?_
    refine zk_iload_n (i := 1) dX12_letterAt_12 rfl rfl ?_
    obtain ⟨b1, h⟩ := zk_gd h
    refine zk_iaload 9 200 dX12_letterAt_13 (Nat.le_of_ble_eq_true rfl) rfl (zk_inb_in b1) ?_
    refine zk_goto 18 dX12_letterAt_14 rfl ?_
    exact zk_ireturn dX12_letterAt_18 rfl (zk_rI (Option.some.inj h))
set_option maxRecDepth 100000 in
set_option maxHeartbeats 4000000 in
theorem fMd_next_L0_ok {d : Nat} {Z : zkZ} (hd : 1 ≤ d)  : ∀ (n : Nat) (mem : zkM) (z : zkM), fMd_next_L0 n mem = some z → zk_J zSM d zY_X12_next Z 26 [some (.ref 0), none] [] z → zk_J zSM d zY_X12_next Z 0 [some (.ref 0), none] [] mem := by
  intro n
  induction n with
  | zero => intro mem z h; cases h
  | succ n ih =>
    intro mem z h he
    rw [fMd_next_L0] at h
    refine zk_aload_n (i := 0) dX12_next_0 rfl rfl ?_
    refine zk_aload_n (i := 0) dX12_next_1 rfl rfl ?_
    refine zk_getI 0 12 16 dX12_next_2 zf_X12_86 (Nat.le_of_ble_eq_true rfl) rfl rfl ?_
    obtain ⟨q1, hq1, h⟩ := zk_ob h
    refine zk_callVi zY_X12_letterAt 0 12 [_] dX12_next_5 zl_X12_letterAt zc_X12_89 zk_ok12 (Nat.le_of_ble_eq_true rfl) rfl (fMd_letterAt_ok (d := 0) (Nat.le_refl _) mem _ _ hq1) (Nat.lt_of_lt_of_le (by decide) hd) (Nat.le_of_ble_eq_true rfl) ?_
    refine zk_bipush dX12_next_8 zkb_32 ?_
    refine zk_icmp_ne 26 dX12_next_10 rfl (fun c3 => ?_) (fun c3 => ?_)
    · have h := zk_if _ h c3
      cases h
      exact zk_weak (zk_leS (zk_leN zk_leE)) he
    · have h := zk_it _ h c3
      refine zk_aload_n (i := 0) dX12_next_13 rfl rfl ?_
      refine zk_dup dX12_next_14 rfl ?_
      refine zk_getI 0 12 16 dX12_next_15 zf_X12_86 (Nat.le_of_ble_eq_true rfl) rfl rfl ?_
      refine zk_iconst dX12_next_18 zki_1 ?_
      refine zk_iadd dX12_next_19 ?_
      obtain ⟨m2, em2, h⟩ := zk_lt h
      refine zk_putI' 0 12 16 dX12_next_20 zp_X12_86 (Nat.le_of_ble_eq_true rfl) rfl rfl em2 ?_
      refine zk_goto 0 dX12_next_23 rfl ?_
      exact zk_weak (zk_leS (zk_leN zk_leE)) (ih m2  _ h he)
set_option maxRecDepth 100000 in
set_option maxHeartbeats 4000000 in
theorem fMd_next_L124_ok {d : Nat} {Z : zkZ} (hd : 1 ≤ d)  : ∀ (n : Nat) (mem : zkM) (x1 : Int32) (z : zkM), fMd_next_L124 n mem = some z → zk_J zSM d zY_X12_next Z 198 [some (.ref 0), some (.int x1)] [] z → zk_J zSM d zY_X12_next Z 124 [some (.ref 0), some (.int x1)] [] mem := by
  intro n
  induction n with
  | zero => intro mem x1 z h; cases h
  | succ n ih =>
    intro mem x1 z h he
    rw [fMd_next_L124] at h
    refine zk_aload_n (i := 0) dX12_next_124 rfl rfl ?_
    refine zk_aload_n (i := 0) dX12_next_125 rfl rfl ?_
    refine zk_getI 0 12 16 dX12_next_126 zf_X12_86 (Nat.le_of_ble_eq_true rfl) rfl rfl ?_
    obtain ⟨q1, hq1, h⟩ := zk_ob h
    refine zk_callVi zY_X12_letterAt 0 12 [_] dX12_next_129 zl_X12_letterAt zc_X12_89 zk_ok12 (Nat.le_of_ble_eq_true rfl) rfl (fMd_letterAt_ok (d := 0) (Nat.le_refl _) mem _ _ hq1) (Nat.lt_of_lt_of_le (by decide) hd) (Nat.le_of_ble_eq_true rfl) ?_
    refine zk_bipush dX12_next_132 zkb_48 ?_
    refine zk_bipush dX12_next_134 zkb_57 ?_
    refine zk_callSi zY_X12_in [_, _, _] dX12_next_136 zl_X12_in zc_X12_73 (fMd_in_ok (d := 0) (Nat.le_refl _) mem _ _ _ _ rfl) (Nat.lt_of_lt_of_le (by decide) hd) (Nat.le_of_ble_eq_true rfl) ?_
    refine zk_if_eq 198 dX12_next_139 rfl (fun c7 => ?_) (fun c7 => ?_)
    · have h := zk_it _ h c7
      cases h
      exact zk_weak (zk_leS (zk_leS zk_leE)) he
    · have h := zk_if _ h c7
      refine zk_aload_n (i := 0) dX12_next_142 rfl rfl ?_
      refine zk_aload_n (i := 0) dX12_next_143 rfl rfl ?_
      refine zk_getI 0 12 16 dX12_next_144 zf_X12_86 (Nat.le_of_ble_eq_true rfl) rfl rfl ?_
      refine zk_aload_n (i := 0) dX12_next_147 rfl rfl ?_
      refine zk_getI 0 12 17 dX12_next_148 zf_X12_93 (Nat.le_of_ble_eq_true rfl) rfl rfl ?_
      refine zk_isub dX12_next_151 ?_
      refine zk_iconst dX12_next_152 zki_2 ?_
      obtain ⟨q2, hq2, h⟩ := zk_ob h
      have Jq2 : zk_J zSM d zY_X12_next Z 182 [some (.ref 0), some (.int x1)] [.int q2, .ref 0] mem := by
        obtain ⟨m5, em5, h⟩ := zk_lt h
        refine zk_putI' 0 12 19 dX12_next_182 zp_X12_99 (Nat.le_of_ble_eq_true rfl) rfl rfl em5 ?_
        refine zk_aload_n (i := 0) dX12_next_185 rfl rfl ?_
        refine zk_dup dX12_next_186 rfl ?_
        refine zk_getI 0 12 16 dX12_next_187 zf_X12_86 (Nat.le_of_ble_eq_true rfl) rfl rfl ?_
        refine zk_iconst dX12_next_190 zki_1 ?_
        refine zk_iadd dX12_next_191 ?_
        obtain ⟨m6, em6, h⟩ := zk_lt h
        refine zk_putI' 0 12 16 dX12_next_192 zp_X12_86 (Nat.le_of_ble_eq_true rfl) rfl rfl em6 ?_
        refine zk_goto 124 dX12_next_195 rfl ?_
        exact zk_weak (zk_leS (zk_leS zk_leE)) (ih m6 x1 _ h he)
      have h := hq2
      clear hq2
      refine zk_icmp_ge 178 dX12_next_153 rfl (fun c4 => ?_) (fun c4 => ?_)
      · have h := zk_it _ h c4
        refine zk_aload_n (i := 0) dX12_next_178 rfl rfl ?_
        refine zk_getI 0 12 19 dX12_next_179 zf_X12_99 (Nat.le_of_ble_eq_true rfl) rfl rfl ?_
        cases h
        exact zk_weak (zk_leS (zk_leS zk_leE)) Jq2
      · have h := zk_if _ h c4
        refine zk_bipush dX12_next_156 zkb_10 ?_
        refine zk_aload_n (i := 0) dX12_next_158 rfl rfl ?_
        refine zk_getI 0 12 19 dX12_next_159 zf_X12_99 (Nat.le_of_ble_eq_true rfl) rfl rfl ?_
        refine zk_imul dX12_next_162 ?_
        refine zk_aload_n (i := 0) dX12_next_163 rfl rfl ?_
        refine zk_aload_n (i := 0) dX12_next_164 rfl rfl ?_
        refine zk_getI 0 12 16 dX12_next_165 zf_X12_86 (Nat.le_of_ble_eq_true rfl) rfl rfl ?_
        obtain ⟨q3, hq3, h⟩ := zk_ob h
        refine zk_callVi zY_X12_letterAt 0 12 [_] dX12_next_168 zl_X12_letterAt zc_X12_89 zk_ok12 (Nat.le_of_ble_eq_true rfl) rfl (fMd_letterAt_ok (d := 0) (Nat.le_refl _) mem _ _ hq3) (Nat.lt_of_lt_of_le (by decide) hd) (Nat.le_of_ble_eq_true rfl) ?_
        refine zk_iadd dX12_next_171 ?_
        refine zk_bipush dX12_next_172 zkb_48 ?_
        refine zk_isub dX12_next_174 ?_
        refine zk_goto 182 dX12_next_175 rfl ?_
        cases h
        exact zk_weak (zk_leS (zk_leS zk_leE)) Jq2
set_option maxRecDepth 100000 in
set_option maxHeartbeats 4000000 in
theorem fMd_next_ok {d : Nat} (hd : 1 ≤ d) (mem : zkM) (z : zkM) (h : fMd_next mem = some z) : zk_X zSM d zY_X12_next [.ref 0] mem (none, z) := by
  unfold fMd_next at h
  refine zk_meet (n := 1) (lv := [some (.ref 0), none]) zpn_X12 rfl (Nat.le_of_ble_eq_true rfl) ?_
  obtain ⟨q1, hq1, h⟩ := zk_ob h
  refine zk_weak (zk_leS (zk_leN zk_leE)) (fMd_next_L0_ok hd 500 mem  _ hq1 ?_)
  refine zk_aload_n (i := 0) dX12_next_26 rfl rfl ?_
  refine zk_aload_n (i := 0) dX12_next_27 rfl rfl ?_
  refine zk_getI 0 12 16 dX12_next_28 zf_X12_86 (Nat.le_of_ble_eq_true rfl) rfl rfl ?_
  obtain ⟨m2, em2, h⟩ := zk_lt h
  refine zk_putI' 0 12 17 dX12_next_31 zp_X12_93 (Nat.le_of_ble_eq_true rfl) rfl rfl em2 ?_
  refine zk_aload_n (i := 0) dX12_next_34 rfl rfl ?_
  refine zk_aload_n (i := 0) dX12_next_35 rfl rfl ?_
  refine zk_getI 0 12 16 dX12_next_36 zf_X12_86 (Nat.le_of_ble_eq_true rfl) rfl rfl ?_
  obtain ⟨q3, hq3, h⟩ := zk_ob h
  refine zk_callVi zY_X12_letterAt 0 12 [_] dX12_next_39 zl_X12_letterAt zc_X12_89 zk_ok12 (Nat.le_of_ble_eq_true rfl) rfl (fMd_letterAt_ok (d := 0) (Nat.le_refl _) m2 _ _ hq3) (Nat.lt_of_lt_of_le (by decide) hd) (Nat.le_of_ble_eq_true rfl) ?_
  refine zk_istore_n (i := 1) dX12_next_42 rfl (Nat.le_of_ble_eq_true rfl) rfl ?_
  refine zk_iload_n (i := 1) dX12_next_43 rfl rfl ?_
  refine zk_if_ge 53 dX12_next_44 rfl (fun c23 => ?_) (fun c23 => ?_)
  · have h := zk_it _ h c23
    refine zk_aload_n (i := 0) dX12_next_53 rfl rfl ?_
    refine zk_dup dX12_next_54 rfl ?_
    refine zk_getI 0 12 16 dX12_next_55 zf_X12_86 (Nat.le_of_ble_eq_true rfl) rfl rfl ?_
    refine zk_iconst dX12_next_58 zki_1 ?_
    refine zk_iadd dX12_next_59 ?_
    obtain ⟨m4, em4, h⟩ := zk_lt h
    refine zk_putI' 0 12 16 dX12_next_60 zp_X12_86 (Nat.le_of_ble_eq_true rfl) rfl rfl em4 ?_
    refine zk_aload_n (i := 0) dX12_next_63 rfl rfl ?_
    refine zk_iload_n (i := 1) dX12_next_64 rfl rfl ?_
    obtain ⟨m5, em5, h⟩ := zk_lt h
    refine zk_putI' 0 12 19 dX12_next_65 zp_X12_99 (Nat.le_of_ble_eq_true rfl) rfl rfl em5 ?_
    refine zk_aload_n (i := 0) dX12_next_68 rfl rfl ?_
    refine zk_iload_n (i := 1) dX12_next_69 rfl rfl ?_
    refine zk_bipush dX12_next_70 zkb_98 ?_
    obtain ⟨q6, hq6, h⟩ := zk_lt h
    have Jq6 : zk_J zSM d zY_X12_next (zk_R zSM (none, z)) 102 [some (.ref 0), some (.int q3)] [.int q6, .ref 0] m5 := by
      obtain ⟨m11, em11, h⟩ := zk_lt h
      refine zk_putI' 0 12 18 dX12_next_102 zp_X12_96 (Nat.le_of_ble_eq_true rfl) rfl rfl em11 ?_
      refine zk_iload_n (i := 1) dX12_next_105 rfl rfl ?_
      refine zk_bipush dX12_next_106 zkb_48 ?_
      refine zk_bipush dX12_next_108 zkb_57 ?_
      refine zk_callSi zY_X12_in [_, _, _] dX12_next_110 zl_X12_in zc_X12_73 (fMd_in_ok (d := 0) (Nat.le_refl _) m11 _ _ _ _ rfl) (Nat.lt_of_lt_of_le (by decide) hd) (Nat.le_of_ble_eq_true rfl) ?_
      refine zk_if_eq 239 dX12_next_113 rfl (fun c21 => ?_) (fun c21 => ?_)
      · have h := zk_it _ h c21
        exact zk_vreturn dX12_next_239 rfl (zk_rVw (Option.some.inj h))
      · have h := zk_if _ h c21
        refine zk_aload_n (i := 0) dX12_next_116 rfl rfl ?_
        refine zk_iload_n (i := 1) dX12_next_117 rfl rfl ?_
        refine zk_bipush dX12_next_118 zkb_48 ?_
        refine zk_isub dX12_next_120 ?_
        obtain ⟨m12, em12, h⟩ := zk_lt h
        refine zk_putI' 0 12 19 dX12_next_121 zp_X12_99 (Nat.le_of_ble_eq_true rfl) rfl rfl em12 ?_
        obtain ⟨q13, hq13, h⟩ := zk_ob h
        refine zk_weak (zk_leS (zk_leS zk_leE)) (fMd_next_L124_ok hd 500 m12 q3 _ hq13 ?_)
        refine zk_aload_n (i := 0) dX12_next_198 rfl rfl ?_
        refine zk_aload_n (i := 0) dX12_next_199 rfl rfl ?_
        refine zk_getI 0 12 16 dX12_next_200 zf_X12_86 (Nat.le_of_ble_eq_true rfl) rfl rfl ?_
        refine zk_aload_n (i := 0) dX12_next_203 rfl rfl ?_
        refine zk_getI 0 12 17 dX12_next_204 zf_X12_93 (Nat.le_of_ble_eq_true rfl) rfl rfl ?_
        refine zk_isub dX12_next_207 ?_
        refine zk_iconst dX12_next_208 zki_3 ?_
        refine zk_icmp_ge 235 dX12_next_209 rfl (fun c20 => ?_) (fun c20 => ?_)
        · have h := zk_it _ h c20
          refine zk_iconst dX12_next_235 zki_4 ?_
          obtain ⟨m14, em14, h⟩ := zk_lt h
          refine zk_putI' 0 12 18 dX12_next_236 zp_X12_96 (Nat.le_of_ble_eq_true rfl) rfl rfl em14 ?_
          exact zk_vreturn dX12_next_239 rfl (zk_rVw (Option.some.inj h))
        · have h := zk_if _ h c20
          refine zk_iload_n (i := 1) dX12_next_212 rfl rfl ?_
          refine zk_bipush dX12_next_213 zkb_48 ?_
          refine zk_icmp_ne 231 dX12_next_215 rfl (fun c19 => ?_) (fun c19 => ?_)
          · have h := zk_if _ h c19
            refine zk_iconst dX12_next_231 zki_2 ?_
            refine zk_goto 236 dX12_next_232 rfl ?_
            obtain ⟨m15, em15, h⟩ := zk_lt h
            refine zk_putI' 0 12 18 dX12_next_236 zp_X12_96 (Nat.le_of_ble_eq_true rfl) rfl rfl em15 ?_
            exact zk_vreturn dX12_next_239 rfl (zk_rVw (Option.some.inj h))
          · have h := zk_it _ h c19
            refine zk_aload_n (i := 0) dX12_next_218 rfl rfl ?_
            refine zk_getI 0 12 16 dX12_next_219 zf_X12_86 (Nat.le_of_ble_eq_true rfl) rfl rfl ?_
            refine zk_aload_n (i := 0) dX12_next_222 rfl rfl ?_
            refine zk_getI 0 12 17 dX12_next_223 zf_X12_93 (Nat.le_of_ble_eq_true rfl) rfl rfl ?_
            refine zk_isub dX12_next_226 ?_
            refine zk_iconst dX12_next_227 zki_1 ?_
            refine zk_icmp_ne 235 dX12_next_228 rfl (fun c18 => ?_) (fun c18 => ?_)
            · have h := zk_if _ h c18
              refine zk_iconst dX12_next_235 zki_4 ?_
              obtain ⟨m16, em16, h⟩ := zk_lt h
              refine zk_putI' 0 12 18 dX12_next_236 zp_X12_96 (Nat.le_of_ble_eq_true rfl) rfl rfl em16 ?_
              exact zk_vreturn dX12_next_239 rfl (zk_rVw (Option.some.inj h))
            · have h := zk_it _ h c18
              refine zk_iconst dX12_next_231 zki_2 ?_
              refine zk_goto 236 dX12_next_232 rfl ?_
              obtain ⟨m17, em17, h⟩ := zk_lt h
              refine zk_putI' 0 12 18 dX12_next_236 zp_X12_96 (Nat.le_of_ble_eq_true rfl) rfl rfl em17 ?_
              exact zk_vreturn dX12_next_239 rfl (zk_rVw (Option.some.inj h))
    have h := hq6
    clear hq6
    refine zk_icmp_eq 87 dX12_next_72 rfl (fun c10 => ?_) (fun c10 => ?_)
    · have h := zk_it _ h c10
      refine zk_iconst dX12_next_87 zki_1 ?_
      refine zk_goto 102 dX12_next_88 rfl ?_
      subst h
      exact zk_weak (zk_leS (zk_leS zk_leE)) Jq6
    · have h := zk_if _ h c10
      refine zk_iload_n (i := 1) dX12_next_75 rfl rfl ?_
      refine zk_bipush dX12_next_76 zkb_112 ?_
      refine zk_icmp_eq 87 dX12_next_78 rfl (fun c9 => ?_) (fun c9 => ?_)
      · have h := zk_it _ h c9
        refine zk_iconst dX12_next_87 zki_1 ?_
        refine zk_goto 102 dX12_next_88 rfl ?_
        subst h
        exact zk_weak (zk_leS (zk_leS zk_leE)) Jq6
      · have h := zk_if _ h c9
        refine zk_iload_n (i := 1) dX12_next_81 rfl rfl ?_
        refine zk_bipush dX12_next_82 zkb_99 ?_
        refine zk_icmp_ne 91 dX12_next_84 rfl (fun c8 => ?_) (fun c8 => ?_)
        · have h := zk_if _ h c8
          refine zk_iload_n (i := 1) dX12_next_91 rfl rfl ?_
          refine zk_bipush dX12_next_92 zkb_59 ?_
          refine zk_icmp_ne 101 dX12_next_94 rfl (fun c7 => ?_) (fun c7 => ?_)
          · have h := zk_if _ h c7
            refine zk_iconst dX12_next_101 zki_4 ?_
            subst h
            exact zk_weak (zk_leS (zk_leS zk_leE)) Jq6
          · have h := zk_it _ h c7
            refine zk_iconst dX12_next_97 zki_3 ?_
            refine zk_goto 102 dX12_next_98 rfl ?_
            subst h
            exact zk_weak (zk_leS (zk_leS zk_leE)) Jq6
        · have h := zk_it _ h c8
          refine zk_iconst dX12_next_87 zki_1 ?_
          refine zk_goto 102 dX12_next_88 rfl ?_
          subst h
          exact zk_weak (zk_leS (zk_leS zk_leE)) Jq6
  · have h := zk_if _ h c23
    refine zk_aload_n (i := 0) dX12_next_47 rfl rfl ?_
    refine zk_iconst dX12_next_48 zki_0 ?_
    obtain ⟨m22, em22, h⟩ := zk_lt h
    refine zk_putI' 0 12 18 dX12_next_49 zp_X12_96 (Nat.le_of_ble_eq_true rfl) rfl rfl em22 ?_
    exact zk_vreturn dX12_next_52 rfl (zk_rVw (Option.some.inj h))
set_option maxRecDepth 100000 in
set_option maxHeartbeats 4000000 in
theorem fMd_must_ok {d : Nat} (hd : 2 ≤ d) (mem : zkM) (a1 : Bool) (z : zkM) (h : fMd_must mem a1 = some z) : zk_X zSM d zY_X12_must [.ref 0, .int (zk_b a1)] mem (none, z) := by
  unfold fMd_must at h
  refine zk_meet (n := 0) (lv := [some (.ref 0), some (.int (zk_b a1))]) zpn_X12 rfl (Nat.le_of_ble_eq_true rfl) ?_
  refine zk_aload_n (i := 0) dX12_must_0 rfl rfl ?_
  refine zk_aload_n (i := 0) dX12_must_1 rfl rfl ?_
  refine zk_getZ 0 12 20 dX12_must_2 zf_X12_102 (Nat.le_of_ble_eq_true rfl) rfl rfl ?_
  obtain ⟨q1, hq1, h⟩ := zk_lt h
  have Jq1 : zk_J zSM d zY_X12_must (zk_R zSM (none, z)) 17 [some (.ref 0), none] [.int (zk_b q1), .ref 0] mem := by
    obtain ⟨m4, em4, h⟩ := zk_lt h
    refine zk_putZ' 0 12 20 dX12_must_17 zp_X12_102 (Nat.le_of_ble_eq_true rfl) rfl rfl (zk_nb _) (zk_fb _) em4 ?_
    refine zk_aload_n (i := 0) dX12_must_20 rfl rfl ?_
    refine zk_getZ 0 12 20 dX12_must_21 zf_X12_102 (Nat.le_of_ble_eq_true rfl) rfl rfl ?_
    refine zk_if_ne 31 dX12_must_24 rfl (fun c6 => ?_) (fun c6 => ?_)
    · have h := zk_if _ h c6
      exact zk_vreturn dX12_must_31 rfl (zk_rVw (Option.some.inj h))
    · have h := zk_it _ h c6
      refine zk_aload_n (i := 0) dX12_must_27 rfl rfl ?_
      obtain ⟨q5, hq5, h⟩ := zk_ob h
      refine zk_callVv zY_X12_next 0 12 [] dX12_must_28 zl_X12_next zc_X12_106 zk_ok12 (Nat.le_of_ble_eq_true rfl) rfl (fMd_next_ok (d := 1) (Nat.le_refl _) m4  _ hq5) (Nat.lt_of_lt_of_le (by decide) hd) (Nat.le_of_ble_eq_true rfl) ?_
      exact zk_vreturn dX12_must_31 rfl (zk_rVw (Option.some.inj h))
  have h := hq1
  clear hq1
  refine zk_if_ne 12 dX12_must_5 rfl (fun c3 => ?_) (fun c3 => ?_)
  · have h := zk_if _ h c3
    refine zk_iconst dX12_must_12 zki_1 ?_
    refine zk_goto 17 dX12_must_13 rfl ?_
    subst h
    exact zk_weak (zk_leS (zk_leN zk_leE)) Jq1
  · have h := zk_it _ h c3
    refine zk_iload_n (i := 1) dX12_must_8 rfl rfl ?_
    refine zk_if_ne 16 dX12_must_9 rfl (fun c2 => ?_) (fun c2 => ?_)
    · have h := zk_if _ h c2
      refine zk_iconst dX12_must_16 zki_0 ?_
      subst h
      exact zk_weak (zk_leS (zk_leN zk_leE)) Jq1
    · have h := zk_it _ h c2
      refine zk_iconst dX12_must_12 zki_1 ?_
      refine zk_goto 17 dX12_must_13 rfl ?_
      subst h
      exact zk_weak (zk_leS (zk_leN zk_leE)) Jq1
set_option maxRecDepth 100000 in
set_option maxHeartbeats 4000000 in
theorem fMd_readInto_12_ok {d : Nat} (hd : 3 ≤ d) (mem : zkM) (a2 : Int32) (a3 : Int32) (a4 : Int32) (z : Int32 × zkM) (h : fMd_readInto_12 mem a2 a3 a4 = some z) : zk_X zSM d zY_X12_readInto [.ref 0, .ref 12, .int a2, .int a3, .int a4] mem (some (.int z.1), z.2) := by
  unfold fMd_readInto_12 at h
  refine zk_meet (n := 1) (lv := [some (.ref 0), some (.ref 12), some (.int a2), some (.int a3), some (.int a4), none]) zpn_X12 rfl (Nat.le_of_ble_eq_true rfl) ?_
  refine zk_aload_n (i := 0) dX12_readInto_0 rfl rfl ?_
  refine zk_getI 0 12 19 dX12_readInto_1 zf_X12_99 (Nat.le_of_ble_eq_true rfl) rfl rfl ?_
  obtain ⟨v1, ev1, h⟩ := zk_lt h
  refine zk_istore' dX12_readInto_4 ev1 (Nat.le_of_ble_eq_true rfl) rfl ?_
  refine zk_aload_n (i := 0) dX12_readInto_6 rfl rfl ?_
  refine zk_aload_n (i := 0) dX12_readInto_7 rfl rfl ?_
  refine zk_getI 0 12 18 dX12_readInto_8 zf_X12_96 (Nat.le_of_ble_eq_true rfl) rfl rfl ?_
  refine zk_iconst dX12_readInto_11 zki_2 ?_
  obtain ⟨q2, hq2, h⟩ := zk_lt h
  have Jq2 : zk_J zSM d zY_X12_readInto (zk_R zSM (some (.int z.1), z.2)) 31 [some (.ref 0), some (.ref 12), some (.int a2), none, none, some (.int v1)] [.int (zk_b q2), .ref 0] mem := by
    obtain ⟨q5, hq5, h⟩ := zk_ob h
    refine zk_callVv zY_X12_must 0 12 [_] dX12_readInto_31 zl_X12_must zc_X12_109 zk_ok12 (Nat.le_of_ble_eq_true rfl) rfl (fMd_must_ok (d := 2) (Nat.le_refl _) mem _ _ hq5) (Nat.lt_of_lt_of_le (by decide) hd) (Nat.le_of_ble_eq_true rfl) ?_
    refine zk_aload_n (i := 0) dX12_readInto_34 rfl rfl ?_
    refine zk_getZ 0 12 20 dX12_readInto_35 zf_X12_102 (Nat.le_of_ble_eq_true rfl) rfl rfl ?_
    refine zk_if_ne 46 dX12_readInto_38 rfl (fun c8 => ?_) (fun c8 => ?_)
    · have h := zk_if _ h c8
      refine zk_iload dX12_readInto_46 rfl ?_
      exact zk_ireturn dX12_readInto_48 rfl (zk_rIw (Option.some.inj h))
    · have h := zk_it _ h c8
      refine zk_aload_n (i := 1) dX12_readInto_41 rfl rfl ?_
      refine zk_iload_n (i := 2) dX12_readInto_42 rfl rfl ?_
      refine zk_iload dX12_readInto_43 rfl ?_
      obtain ⟨b6, h⟩ := zk_gd h
      obtain ⟨m7, em7, h⟩ := zk_lt h
      refine zk_iastore' 12 10 dX12_readInto_45 (Nat.le_of_ble_eq_true rfl) rfl (zk_inb_in b6) em7 ?_
      refine zk_iload dX12_readInto_46 rfl ?_
      exact zk_ireturn dX12_readInto_48 rfl (zk_rIw (Option.some.inj h))
  have h := hq2
  clear hq2
  refine zk_icmp_ne 30 dX12_readInto_12 rfl (fun c4 => ?_) (fun c4 => ?_)
  · have h := zk_if _ h c4
    refine zk_iconst dX12_readInto_30 zki_0 ?_
    subst h
    exact zk_weak (zk_leS (zk_leS (zk_leS (zk_leN (zk_leN (zk_leS zk_leE)))))) Jq2
  · have h := zk_it _ h c4
    refine zk_iload dX12_readInto_15 rfl ?_
    refine zk_iload_n (i := 3) dX12_readInto_17 rfl rfl ?_
    refine zk_iload dX12_readInto_18 rfl ?_
    refine zk_callSi zY_X12_in [_, _, _] dX12_readInto_20 zl_X12_in zc_X12_73 (fMd_in_ok (d := 0) (Nat.le_refl _) mem _ _ _ _ rfl) (Nat.lt_of_lt_of_le (by decide) hd) (Nat.le_of_ble_eq_true rfl) ?_
    refine zk_if_eq 30 dX12_readInto_23 rfl (fun c3 => ?_) (fun c3 => ?_)
    · have h := zk_it _ h c3
      refine zk_iconst dX12_readInto_30 zki_0 ?_
      subst h
      exact zk_weak (zk_leS (zk_leS (zk_leS (zk_leN (zk_leN (zk_leS zk_leE)))))) Jq2
    · have h := zk_if _ h c3
      refine zk_iconst dX12_readInto_26 zki_1 ?_
      refine zk_goto 31 dX12_readInto_27 rfl ?_
      subst h
      exact zk_weak (zk_leS (zk_leS (zk_leS (zk_leN (zk_leN (zk_leS zk_leE)))))) Jq2
set_option maxRecDepth 100000 in
set_option maxHeartbeats 4000000 in
theorem fMd_readChild_ok {d : Nat} (hd : 4 ≤ d) (mem : zkM) (z : zkM) (h : fMd_readChild mem = some z) : zk_X zSM d zY_X12_readChild [.ref 0] mem (none, z) := by
  unfold fMd_readChild at h
  refine zk_meet (n := 0) (lv := [some (.ref 0)]) zpn_X12 rfl (Nat.le_of_ble_eq_true rfl) ?_
  refine zk_aload_n (i := 0) dX12_readChild_0 rfl rfl ?_
  refine zk_aload_n (i := 0) dX12_readChild_1 rfl rfl ?_
  refine zk_getI 0 12 25 dX12_readChild_2 zf_X12_127 (Nat.le_of_ble_eq_true rfl) rfl rfl ?_
  refine zk_iconst dX12_readChild_5 zki_5 ?_
  obtain ⟨q1, hq1, h⟩ := zk_lt h
  have Jq1 : zk_J zSM d zY_X12_readChild (zk_R zSM (none, z)) 14 [some (.ref 0)] [.int (zk_b q1), .ref 0] mem := by
    obtain ⟨q3, hq3, h⟩ := zk_ob h
    refine zk_callVv zY_X12_must 0 12 [_] dX12_readChild_14 zl_X12_must zc_X12_109 zk_ok12 (Nat.le_of_ble_eq_true rfl) rfl (fMd_must_ok (d := 2) (Nat.le_refl _) mem _ _ hq3) (Nat.lt_of_lt_of_le (by decide) hd) (Nat.le_of_ble_eq_true rfl) ?_
    refine zk_aload_n (i := 0) dX12_readChild_17 rfl rfl ?_
    refine zk_getZ 0 12 20 dX12_readChild_18 zf_X12_102 (Nat.le_of_ble_eq_true rfl) rfl rfl ?_
    refine zk_if_eq 25 dX12_readChild_21 rfl (fun c10 => ?_) (fun c10 => ?_)
    · have h := zk_it _ h c10
      refine zk_aload_n (i := 0) dX12_readChild_25 rfl rfl ?_
      refine zk_aload_n (i := 0) dX12_readChild_26 rfl rfl ?_
      refine zk_getR 0 12 26 dX12_readChild_27 zf_X12_44 (Nat.le_of_ble_eq_true rfl) rfl rfl ?_
      refine zk_iconst dX12_readChild_30 zki_2 ?_
      refine zk_aload_n (i := 0) dX12_readChild_31 rfl rfl ?_
      refine zk_getI 0 12 25 dX12_readChild_32 zf_X12_127 (Nat.le_of_ble_eq_true rfl) rfl rfl ?_
      refine zk_imul dX12_readChild_35 ?_
      refine zk_iconst dX12_readChild_36 zki_1 ?_
      refine zk_bipush dX12_readChild_37 zkb_9 ?_
      obtain ⟨q4, hq4, h⟩ := zk_ob h
      refine zk_callVi zY_X12_readInto 0 12 [_, _, _, _] dX12_readChild_39 zl_X12_readInto zc_X12_116 zk_ok12 (Nat.le_of_ble_eq_true rfl) rfl (fMd_readInto_12_ok (d := 3) (Nat.le_refl _) q3 _ _ _ _ hq4) (Nat.lt_of_lt_of_le (by decide) hd) (Nat.le_of_ble_eq_true rfl) ?_
      refine zk_pop dX12_readChild_42 rfl ?_
      refine zk_aload_n (i := 0) dX12_readChild_43 rfl rfl ?_
      refine zk_aload_n (i := 0) dX12_readChild_44 rfl rfl ?_
      refine zk_getR 0 12 26 dX12_readChild_45 zf_X12_44 (Nat.le_of_ble_eq_true rfl) rfl rfl ?_
      refine zk_iconst dX12_readChild_48 zki_2 ?_
      refine zk_aload_n (i := 0) dX12_readChild_49 rfl rfl ?_
      refine zk_getI 0 12 25 dX12_readChild_50 zf_X12_127 (Nat.le_of_ble_eq_true rfl) rfl rfl ?_
      refine zk_imul dX12_readChild_53 ?_
      refine zk_iconst dX12_readChild_54 zki_1 ?_
      refine zk_iadd dX12_readChild_55 ?_
      refine zk_iconst dX12_readChild_56 zki_0 ?_
      refine zk_bipush dX12_readChild_57 zkb_9 ?_
      obtain ⟨q5, hq5, h⟩ := zk_ob h
      refine zk_callVi zY_X12_readInto 0 12 [_, _, _, _] dX12_readChild_59 zl_X12_readInto zc_X12_116 zk_ok12 (Nat.le_of_ble_eq_true rfl) rfl (fMd_readInto_12_ok (d := 3) (Nat.le_refl _) q4.2 _ _ _ _ hq5) (Nat.lt_of_lt_of_le (by decide) hd) (Nat.le_of_ble_eq_true rfl) ?_
      refine zk_pop dX12_readChild_62 rfl ?_
      refine zk_aload_n (i := 0) dX12_readChild_63 rfl rfl ?_
      refine zk_aload_n (i := 0) dX12_readChild_64 rfl rfl ?_
      refine zk_getI 0 12 18 dX12_readChild_65 zf_X12_96 (Nat.le_of_ble_eq_true rfl) rfl rfl ?_
      refine zk_iconst dX12_readChild_68 zki_3 ?_
      obtain ⟨q6, hq6, h⟩ := zk_lt h
      have Jq6 : zk_J zSM d zY_X12_readChild (zk_R zSM (none, z)) 77 [some (.ref 0)] [.int (zk_b q6), .ref 0] q5.2 := by
        obtain ⟨q8, hq8, h⟩ := zk_ob h
        refine zk_callVv zY_X12_must 0 12 [_] dX12_readChild_77 zl_X12_must zc_X12_109 zk_ok12 (Nat.le_of_ble_eq_true rfl) rfl (fMd_must_ok (d := 2) (Nat.le_refl _) q5.2 _ _ hq8) (Nat.lt_of_lt_of_le (by decide) hd) (Nat.le_of_ble_eq_true rfl) ?_
        refine zk_aload_n (i := 0) dX12_readChild_80 rfl rfl ?_
        refine zk_dup dX12_readChild_81 rfl ?_
        refine zk_getI 0 12 25 dX12_readChild_82 zf_X12_127 (Nat.le_of_ble_eq_true rfl) rfl rfl ?_
        refine zk_iconst dX12_readChild_85 zki_1 ?_
        refine zk_iadd dX12_readChild_86 ?_
        obtain ⟨m9, em9, h⟩ := zk_lt h
        refine zk_putI' 0 12 25 dX12_readChild_87 zp_X12_127 (Nat.le_of_ble_eq_true rfl) rfl rfl em9 ?_
        exact zk_vreturn dX12_readChild_90 rfl (zk_rVw (Option.some.inj h))
      have h := hq6
      clear hq6
      refine zk_icmp_ne 76 dX12_readChild_69 rfl (fun c7 => ?_) (fun c7 => ?_)
      · have h := zk_if _ h c7
        refine zk_iconst dX12_readChild_76 zki_0 ?_
        subst h
        exact zk_weak (zk_leS zk_leE) Jq6
      · have h := zk_it _ h c7
        refine zk_iconst dX12_readChild_72 zki_1 ?_
        refine zk_goto 77 dX12_readChild_73 rfl ?_
        subst h
        exact zk_weak (zk_leS zk_leE) Jq6
    · have h := zk_if _ h c10
      exact zk_vreturn dX12_readChild_24 rfl (zk_rVw (Option.some.inj h))
  have h := hq1
  clear hq1
  refine zk_icmp_ge 13 dX12_readChild_6 rfl (fun c2 => ?_) (fun c2 => ?_)
  · have h := zk_it _ h c2
    refine zk_iconst dX12_readChild_13 zki_0 ?_
    subst h
    exact zk_weak (zk_leS zk_leE) Jq1
  · have h := zk_if _ h c2
    refine zk_iconst dX12_readChild_9 zki_1 ?_
    refine zk_goto 14 dX12_readChild_10 rfl ?_
    subst h
    exact zk_weak (zk_leS zk_leE) Jq1
