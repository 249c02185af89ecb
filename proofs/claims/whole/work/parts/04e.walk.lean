set_option maxRecDepth 100000 in
set_option maxHeartbeats 4000000 in
theorem fForecast_lostBehind_ok {d : Nat} (hd : 4 ≤ d) (mem : zkM) (a3 : Int32) (a4 : Int32) (z : Int32 × zkM) (h : fForecast_lostBehind mem a3 a4 = some z) : zk_X zSX d zY_X3_lostBehind [.ref 38, .ref 46, .ref 4, .int a3, .int a4] mem (some (.int z.1), z.2) := by
  unfold fForecast_lostBehind at h
  refine zk_meet (n := 0) (lv := [some (.ref 38), some (.ref 46), some (.ref 4), some (.int a3), some (.int a4)]) zpn_X3 rfl (Nat.le_of_ble_eq_true rfl) ?_
  refine zk_aload_n (i := 0) dX3_lostBehind_0 rfl rfl ?_
  refine zk_getR 38 3 0 dX3_lostBehind_1 zf_X3_12 (Nat.le_of_ble_eq_true rfl) rfl rfl ?_
  refine zk_aload_n (i := 2) dX3_lostBehind_4 rfl rfl ?_
  refine zk_getR 4 8 0 dX3_lostBehind_5 zf_X3_18 (Nat.le_of_ble_eq_true rfl) rfl rfl ?_
  obtain ⟨q1, hq1, h⟩ := zk_lt h
  refine zk_callVv zY_X8_copyFrom 39 8 [_] dX3_lostBehind_8 zl_X8_copyFrom zc_X3_22 zk_ok8 (Nat.le_of_ble_eq_true rfl) rfl (fScene_copyFromL_5_ok (d := 0) (Nat.le_refl _) mem  _ hq1) (Nat.lt_of_lt_of_le (by decide) hd) (Nat.le_of_ble_eq_true rfl) ?_
  refine zk_aload_n (i := 0) dX3_lostBehind_11 rfl rfl ?_
  refine zk_aload_n (i := 1) dX3_lostBehind_12 rfl rfl ?_
  refine zk_iload_n (i := 3) dX3_lostBehind_13 rfl rfl ?_
  refine zk_iload dX3_lostBehind_14 rfl ?_
  obtain ⟨q2, hq2, h⟩ := zk_ob h
  refine zk_callVi zY_X3_blowAndTell 38 3 [_, _, _] dX3_lostBehind_16 zl_X3_blowAndTell zc_X3_50 zk_ok3 (Nat.le_of_ble_eq_true rfl) rfl (fForecast_blowAndTell_ok (d := 3) (Nat.le_refl _) q1 _ _ _ hq2) (Nat.lt_of_lt_of_le (by decide) hd) (Nat.le_of_ble_eq_true rfl) ?_
  refine zk_aload_n (i := 2) dX3_lostBehind_19 rfl rfl ?_
  refine zk_aload_n (i := 1) dX3_lostBehind_20 rfl rfl ?_
  obtain ⟨q3, hq3, h⟩ := zk_ob h
  refine zk_callVi zY_X8_outBits 4 8 [_] dX3_lostBehind_21 zl_X8_outBits zc_X3_26 zk_ok8 (Nat.le_of_ble_eq_true rfl) rfl (fScene_outBits_ok (d := 1) (Nat.le_refl _) q2.2  _ hq3) (Nat.lt_of_lt_of_le (by decide) hd) (Nat.le_of_ble_eq_true rfl) ?_
  refine zk_iconst dX3_lostBehind_24 zki_m1 ?_
  refine zk_ixor dX3_lostBehind_25 ?_
  refine zk_iand dX3_lostBehind_26 ?_
  exact zk_ireturn dX3_lostBehind_27 rfl (zk_rIw (Option.some.inj h))
set_option maxRecDepth 100000 in
set_option maxHeartbeats 4000000 in
theorem fScene_doAnewL_ok {d : Nat} (hd : 0 ≤ d) (mem : zkM) (a1 : Int32) (a2 : Int32) (z : zkM) (h : fScene_doAnewL mem a1 a2 = some z) : zk_X zSX d zY_X8_doAnew [.ref 39, .int a1, .int a2] mem (none, z) := by
  unfold fScene_doAnewL at h
  refine zk_meet (n := 0) (lv := [some (.ref 39), some (.int a1), some (.int a2)]) zpn_X8 rfl (Nat.le_of_ble_eq_true rfl) ?_
  refine zk_aload_n (i := 0) dX8_doAnew_0 rfl rfl ?_
  refine zk_getR 39 8 0 dX8_doAnew_1 zf_X8_11 (Nat.le_of_ble_eq_true rfl) rfl rfl ?_
  refine zk_iconst dX8_doAnew_4 zki_5 ?_
  refine zk_iload_n (i := 1) dX8_doAnew_5 rfl rfl ?_
  refine zk_iadd dX8_doAnew_6 ?_
  refine zk_iload_n (i := 2) dX8_doAnew_7 rfl rfl ?_
  obtain ⟨b1, h⟩ := zk_gd h
  obtain ⟨m2, em2, h⟩ := zk_lt h
  refine zk_iastore' 40 42 dX8_doAnew_8 (Nat.le_of_ble_eq_true rfl) rfl (zk_inb_in b1) em2 ?_
  refine zk_aload_n (i := 0) dX8_doAnew_9 rfl rfl ?_
  refine zk_getR 39 8 0 dX8_doAnew_10 zf_X8_11 (Nat.le_of_ble_eq_true rfl) rfl rfl ?_
  refine zk_bipush dX8_doAnew_13 zkb_17 ?_
  refine zk_iload_n (i := 1) dX8_doAnew_15 rfl rfl ?_
  refine zk_iadd dX8_doAnew_16 ?_
  refine zk_iconst dX8_doAnew_17 zki_0 ?_
  obtain ⟨b3, h⟩ := zk_gd h
  obtain ⟨m4, em4, h⟩ := zk_lt h
  refine zk_iastore' 40 42 dX8_doAnew_18 (Nat.le_of_ble_eq_true rfl) rfl (zk_inb_in b3) em4 ?_
  refine zk_aload_n (i := 0) dX8_doAnew_19 rfl rfl ?_
  refine zk_getR 39 8 0 dX8_doAnew_20 zf_X8_11 (Nat.le_of_ble_eq_true rfl) rfl rfl ?_
  refine zk_bipush dX8_doAnew_23 zkb_29 ?_
  refine zk_iload_n (i := 1) dX8_doAnew_25 rfl rfl ?_
  refine zk_iadd dX8_doAnew_26 ?_
  refine zk_iconst dX8_doAnew_27 zki_0 ?_
  obtain ⟨b5, h⟩ := zk_gd h
  obtain ⟨m6, em6, h⟩ := zk_lt h
  refine zk_iastore' 40 42 dX8_doAnew_28 (Nat.le_of_ble_eq_true rfl) rfl (zk_inb_in b5) em6 ?_
  exact zk_vreturn dX8_doAnew_29 rfl (zk_rVw (Option.some.inj h))
set_option maxRecDepth 100000 in
set_option maxHeartbeats 4000000 in
theorem fForecast_lostIfBolted_L14_ok {d : Nat} {Z : zkZ} (hd : 4 ≤ d)  : ∀ (n : Nat) (mem : zkM) (x3 : Int32) (x4 : Int32) (x5 : Int32) (z : zkM), fForecast_lostIfBolted_L14 n mem x5 = some z → zk_J zSX d zY_X3_lostIfBolted Z 39 [some (.ref 38), some (.ref 46), none, some (.int x3), some (.int x4), none] [] z → zk_J zSX d zY_X3_lostIfBolted Z 14 [some (.ref 38), some (.ref 46), none, some (.int x3), some (.int x4), some (.int x5)] [] mem := by
  intro n
  induction n with
  | zero => intro mem x3 x4 x5 z h; cases h
  | succ n ih =>
    intro mem x3 x4 x5 z h he
    rw [fForecast_lostIfBolted_L14] at h
    refine zk_iload dX3_lostIfBolted_14 rfl ?_
    refine zk_aload_n (i := 1) dX3_lostIfBolted_16 rfl rfl ?_
    refine zk_callVi zY_X10_ends 46 10 [] dX3_lostIfBolted_17 zl_X10_ends zc_X3_54 zk_ok10 (Nat.le_of_ble_eq_true rfl) rfl (fTree_ends_ok (d := 0) (Nat.le_refl _) mem  _ rfl) (Nat.lt_of_lt_of_le (by decide) hd) (Nat.le_of_ble_eq_true rfl) ?_
    refine zk_icmp_ge 39 dX3_lostIfBolted_20 rfl (fun c2 => ?_) (fun c2 => ?_)
    · have h := zk_it _ h c2
      cases h
      exact zk_weak (zk_leS (zk_leS (zk_leN (zk_leS (zk_leS (zk_leN zk_leE)))))) he
    · have h := zk_if _ h c2
      refine zk_aload_n (i := 0) dX3_lostIfBolted_23 rfl rfl ?_
      refine zk_getR 38 3 0 dX3_lostIfBolted_24 zf_X3_12 (Nat.le_of_ble_eq_true rfl) rfl rfl ?_
      refine zk_iload dX3_lostIfBolted_27 rfl ?_
      refine zk_iconst dX3_lostIfBolted_29 zki_3 ?_
      obtain ⟨q1, hq1, h⟩ := zk_ob h
      refine zk_callVv zY_X8_doAnew 39 8 [_, _] dX3_lostIfBolted_30 zl_X8_doAnew zc_X3_60 zk_ok8 (Nat.le_of_ble_eq_true rfl) rfl (fScene_doAnewL_ok (d := 0) (Nat.le_refl _) mem _ _ _ hq1) (Nat.lt_of_lt_of_le (by decide) hd) (Nat.le_of_ble_eq_true rfl) ?_
      refine zk_iinc2 dX3_lostIfBolted_33 rfl zki_1 (Nat.le_of_ble_eq_true rfl) rfl ?_
      refine zk_goto 14 dX3_lostIfBolted_36 rfl ?_
      exact zk_weak (zk_leS (zk_leS (zk_leN (zk_leS (zk_leS (zk_leS zk_leE)))))) (ih q1 x3 x4 (x5 + (1 : Int32)) _ h he)
set_option maxRecDepth 100000 in
set_option maxHeartbeats 4000000 in
theorem fForecast_lostIfBolted_ok {d : Nat} (hd : 4 ≤ d) (mem : zkM) (a3 : Int32) (a4 : Int32) (z : Int32 × zkM) (h : fForecast_lostIfBolted mem a3 a4 = some z) : zk_X zSX d zY_X3_lostIfBolted [.ref 38, .ref 46, .ref 4, .int a3, .int a4] mem (some (.int z.1), z.2) := by
  unfold fForecast_lostIfBolted at h
  refine zk_meet (n := 1) (lv := [some (.ref 38), some (.ref 46), some (.ref 4), some (.int a3), some (.int a4), none]) zpn_X3 rfl (Nat.le_of_ble_eq_true rfl) ?_
  refine zk_aload_n (i := 0) dX3_lostIfBolted_0 rfl rfl ?_
  refine zk_getR 38 3 0 dX3_lostIfBolted_1 zf_X3_12 (Nat.le_of_ble_eq_true rfl) rfl rfl ?_
  refine zk_aload_n (i := 2) dX3_lostIfBolted_4 rfl rfl ?_
  refine zk_getR 4 8 0 dX3_lostIfBolted_5 zf_X3_18 (Nat.le_of_ble_eq_true rfl) rfl rfl ?_
  obtain ⟨q1, hq1, h⟩ := zk_lt h
  refine zk_callVv zY_X8_copyFrom 39 8 [_] dX3_lostIfBolted_8 zl_X8_copyFrom zc_X3_22 zk_ok8 (Nat.le_of_ble_eq_true rfl) rfl (fScene_copyFromL_5_ok (d := 0) (Nat.le_refl _) mem  _ hq1) (Nat.lt_of_lt_of_le (by decide) hd) (Nat.le_of_ble_eq_true rfl) ?_
  refine zk_iconst dX3_lostIfBolted_11 zki_0 ?_
  refine zk_istore dX3_lostIfBolted_12 (Nat.le_of_ble_eq_true rfl) rfl ?_
  obtain ⟨q2, hq2, h⟩ := zk_ob h
  refine zk_weak (zk_leS (zk_leS (zk_leN (zk_leS (zk_leS (zk_leS zk_leE)))))) (fForecast_lostIfBolted_L14_ok hd 500 q1 a3 a4 (0 : Int32) _ hq2 ?_)
  refine zk_aload_n (i := 0) dX3_lostIfBolted_39 rfl rfl ?_
  refine zk_aload_n (i := 1) dX3_lostIfBolted_40 rfl rfl ?_
  refine zk_iload_n (i := 3) dX3_lostIfBolted_41 rfl rfl ?_
  refine zk_iload dX3_lostIfBolted_42 rfl ?_
  obtain ⟨q3, hq3, h⟩ := zk_ob h
  refine zk_callVi zY_X3_blowAndTell 38 3 [_, _, _] dX3_lostIfBolted_44 zl_X3_blowAndTell zc_X3_50 zk_ok3 (Nat.le_of_ble_eq_true rfl) rfl (fForecast_blowAndTell_ok (d := 3) (Nat.le_refl _) q2 _ _ _ hq3) (Nat.lt_of_lt_of_le (by decide) hd) (Nat.le_of_ble_eq_true rfl) ?_
  exact zk_ireturn dX3_lostIfBolted_47 rfl (zk_rIw (Option.some.inj h))
set_option maxRecDepth 100000 in
set_option maxHeartbeats 4000000 in
theorem fTp_bolts_ok {d : Nat} (hd : 5 ≤ d) (mem : zkM) (a1 : Int32) (a2 : Int32) (a3 : Int32) (z : Int32 × zkM) (h : fTp_bolts mem a1 a2 a3 = some z) : zk_X zSX d zY_X11_bolts [.ref 0, .int a1, .int a2, .int a3] mem (some (.int z.1), z.2) := by
  unfold fTp_bolts at h
  refine zk_meet (n := 1) (lv := [some (.ref 0), some (.int a1), some (.int a2), some (.int a3), none]) zpn_X11 rfl (Nat.le_of_ble_eq_true rfl) ?_
  refine zk_iload_n (i := 1) dX11_bolts_0 rfl rfl ?_
  refine zk_callSi zY_X11_isForce [_] dX11_bolts_1 zl_X11_isForce zc_X11_207 (fTp_isForce_ok (d := 1) (Nat.le_refl _) mem _ _ rfl) (Nat.lt_of_lt_of_le (by decide) hd) (Nat.le_of_ble_eq_true rfl) ?_
  refine zk_if_eq 26 dX11_bolts_4 rfl (fun c6 => ?_) (fun c6 => ?_)
  · have h := zk_it _ h c6
    refine zk_iconst dX11_bolts_26 zki_m1 ?_
    exact zk_ireturn dX11_bolts_27 rfl (zk_rIw (Option.some.inj h))
  · have h := zk_if _ h c6
    refine zk_iload_n (i := 2) dX11_bolts_7 rfl rfl ?_
    refine zk_iconst dX11_bolts_8 zki_1 ?_
    refine zk_bipush dX11_bolts_9 zkb_30 ?_
    refine zk_callSi zY_X11_within [_, _, _] dX11_bolts_11 zl_X11_within zc_X11_93 (fTp_within_ok (d := 0) (Nat.le_refl _) mem _ _ _ _ rfl) (Nat.lt_of_lt_of_le (by decide) hd) (Nat.le_of_ble_eq_true rfl) ?_
    refine zk_if_eq 26 dX11_bolts_14 rfl (fun c5 => ?_) (fun c5 => ?_)
    · have h := zk_it _ h c5
      refine zk_iconst dX11_bolts_26 zki_m1 ?_
      exact zk_ireturn dX11_bolts_27 rfl (zk_rIw (Option.some.inj h))
    · have h := zk_if _ h c5
      refine zk_iload_n (i := 3) dX11_bolts_17 rfl rfl ?_
      refine zk_iconst dX11_bolts_18 zki_0 ?_
      refine zk_iconst dX11_bolts_19 zki_1 ?_
      refine zk_callSi zY_X11_within [_, _, _] dX11_bolts_20 zl_X11_within zc_X11_93 (fTp_within_ok (d := 0) (Nat.le_refl _) mem _ _ _ _ rfl) (Nat.lt_of_lt_of_le (by decide) hd) (Nat.le_of_ble_eq_true rfl) ?_
      refine zk_if_ne 28 dX11_bolts_23 rfl (fun c4 => ?_) (fun c4 => ?_)
      · have h := zk_if _ h c4
        refine zk_aload_n (i := 0) dX11_bolts_28 rfl rfl ?_
        refine zk_getR 0 11 7 dX11_bolts_29 zf_X11_61 (Nat.le_of_ble_eq_true rfl) rfl rfl ?_
        refine zk_aload_n (i := 0) dX11_bolts_32 rfl rfl ?_
        refine zk_getR 0 11 10 dX11_bolts_33 zf_X11_82 (Nat.le_of_ble_eq_true rfl) rfl rfl ?_
        refine zk_aload_n (i := 0) dX11_bolts_36 rfl rfl ?_
        refine zk_getR 0 11 1 dX11_bolts_37 zf_X11_19 (Nat.le_of_ble_eq_true rfl) rfl rfl ?_
        refine zk_iload_n (i := 1) dX11_bolts_40 rfl rfl ?_
        refine zk_iload_n (i := 2) dX11_bolts_41 rfl rfl ?_
        obtain ⟨q1, hq1, h⟩ := zk_ob h
        refine zk_callVi zY_X3_lostBehind 38 3 [_, _, _, _] dX11_bolts_42 zl_X3_lostBehind zc_X11_253 zk_ok3 (Nat.le_of_ble_eq_true rfl) rfl (fForecast_lostBehind_ok (d := 4) (Nat.le_refl _) mem _ _ _ hq1) (Nat.lt_of_lt_of_le (by decide) hd) (Nat.le_of_ble_eq_true rfl) ?_
        refine zk_istore dX11_bolts_45 (Nat.le_of_ble_eq_true rfl) rfl ?_
        refine zk_iload_n (i := 3) dX11_bolts_47 rfl rfl ?_
        refine zk_if_ne 56 dX11_bolts_48 rfl (fun c3 => ?_) (fun c3 => ?_)
        · have h := zk_if _ h c3
          refine zk_iload dX11_bolts_56 rfl ?_
          refine zk_aload_n (i := 0) dX11_bolts_58 rfl rfl ?_
          refine zk_getR 0 11 7 dX11_bolts_59 zf_X11_61 (Nat.le_of_ble_eq_true rfl) rfl rfl ?_
          refine zk_aload_n (i := 0) dX11_bolts_62 rfl rfl ?_
          refine zk_getR 0 11 10 dX11_bolts_63 zf_X11_82 (Nat.le_of_ble_eq_true rfl) rfl rfl ?_
          refine zk_aload_n (i := 0) dX11_bolts_66 rfl rfl ?_
          refine zk_getR 0 11 1 dX11_bolts_67 zf_X11_19 (Nat.le_of_ble_eq_true rfl) rfl rfl ?_
          refine zk_iload_n (i := 1) dX11_bolts_70 rfl rfl ?_
          refine zk_iload_n (i := 2) dX11_bolts_71 rfl rfl ?_
          obtain ⟨q2, hq2, h⟩ := zk_ob h
          refine zk_callVi zY_X3_lostIfBolted 38 3 [_, _, _, _] dX11_bolts_72 zl_X3_lostIfBolted zc_X11_257 zk_ok3 (Nat.le_of_ble_eq_true rfl) rfl (fForecast_lostIfBolted_ok (d := 4) (Nat.le_refl _) q1.2 _ _ _ hq2) (Nat.lt_of_lt_of_le (by decide) hd) (Nat.le_of_ble_eq_true rfl) ?_
          refine zk_iconst dX11_bolts_75 zki_m1 ?_
          refine zk_ixor dX11_bolts_76 ?_
          refine zk_iand dX11_bolts_77 ?_
          exact zk_ireturn dX11_bolts_78 rfl (zk_rIw (Option.some.inj h))
        · have h := zk_it _ h c3
          refine zk_iload dX11_bolts_51 rfl ?_
          refine zk_goto 78 dX11_bolts_53 rfl ?_
          exact zk_ireturn dX11_bolts_78 rfl (zk_rIw (Option.some.inj h))
      · have h := zk_it _ h c4
        refine zk_iconst dX11_bolts_26 zki_m1 ?_
        exact zk_ireturn dX11_bolts_27 rfl (zk_rIw (Option.some.inj h))
set_option maxRecDepth 100000 in
set_option maxHeartbeats 4000000 in
theorem fChance_allWays_L4_ok {d : Nat} {Z : zkZ} (hd : 0 ≤ d)  : ∀ (n : Nat) (mem : zkM) (x0 : Int32) (x1 : Int64) (x3 : Int32) (z : Int64), fChance_allWays_L4 n mem x0 x1 x3 = some z → zk_J zSX d zY_X2_allWays Z 21 [none, some (.long z), none, none] [] mem → zk_J zSX d zY_X2_allWays Z 4 [some (.int x0), some (.long x1), none, some (.int x3)] [] mem := by
  intro n
  induction n with
  | zero => intro mem x0 x1 x3 z h; cases h
  | succ n ih =>
    intro mem x0 x1 x3 z h he
    rw [fChance_allWays_L4] at h
    refine zk_iload_n (i := 3) dX2_allWays_4 rfl rfl ?_
    refine zk_iload_n (i := 0) dX2_allWays_5 rfl rfl ?_
    refine zk_icmp_ge 21 dX2_allWays_6 rfl (fun c2 => ?_) (fun c2 => ?_)
    · have h := zk_it _ h c2
      cases h
      exact zk_weak (zk_leN (zk_leS (zk_leN (zk_leN zk_leE)))) he
    · have h := zk_if _ h c2
      refine zk_lload_n (i := 1) dX2_allWays_9 rfl rfl ?_
      refine zk_ldc2 dX2_allWays_10 zd_X2_18 ?_
      refine zk_lmul dX2_allWays_13 ?_
      obtain ⟨v1, ev1, h⟩ := zk_lt h
      refine zk_lstore_n' (i := 1) dX2_allWays_14 rfl ev1 (Nat.le_of_ble_eq_true rfl) rfl ?_
      refine zk_iinc2 dX2_allWays_15 rfl zki_1 (Nat.le_of_ble_eq_true rfl) rfl ?_
      refine zk_goto 4 dX2_allWays_18 rfl ?_
      exact zk_weak (zk_leS (zk_leS (zk_leN (zk_leS zk_leE)))) (ih mem x0 v1 (x3 + (1 : Int32)) _ h he)
set_option maxRecDepth 100000 in
set_option maxHeartbeats 4000000 in
theorem fChance_allWays_ok {d : Nat} (hd : 0 ≤ d) (mem : zkM) (a0 : Int32) (z : Int64) (h : fChance_allWays mem a0 = some z) : zk_X zSX d zY_X2_allWays [.int a0] mem (some (.long z), mem) := by
  unfold fChance_allWays at h
  refine zk_meet (n := 3) (lv := [some (.int a0), none, none, none]) zpn_X2 rfl (Nat.le_of_ble_eq_true rfl) ?_
  refine zk_lconst (v := 1) dX2_allWays_0 rfl ?_
  refine zk_lstore_n (i := 1) dX2_allWays_1 rfl (Nat.le_of_ble_eq_true rfl) rfl ?_
  refine zk_iconst dX2_allWays_2 zki_0 ?_
  refine zk_istore_n (i := 3) dX2_allWays_3 rfl (Nat.le_of_ble_eq_true rfl) rfl ?_
  obtain ⟨q1, hq1, h⟩ := zk_ob h
  refine zk_weak (zk_leS (zk_leS (zk_leN (zk_leS zk_leE)))) (fChance_allWays_L4_ok hd 500 mem a0 (1 : Int64) (0 : Int32) _ hq1 ?_)
  refine zk_lload_n (i := 1) dX2_allWays_21 rfl rfl ?_
  exact zk_lreturn dX2_allWays_22 rfl (zk_rL (Option.some.inj h))
set_option maxRecDepth 100000 in
set_option maxHeartbeats 4000000 in
theorem fChance_blowOnce_L3_ok {d : Nat} {Z : zkZ} (hd : 1 ≤ d)  : ∀ (n : Nat) (mem : zkM) (x1 : Int32) (x2 : Int32) (x3 : Int32) (x4 : Int32) (z : zkM), fChance_blowOnce_L3 n mem x4 = some z → zk_J zSX d zY_X2_blowOnce Z 24 [some (.ref 41), some (.int x1), some (.int x2), some (.int x3), none, none, none] [] z → zk_J zSX d zY_X2_blowOnce Z 3 [some (.ref 41), some (.int x1), some (.int x2), some (.int x3), some (.int x4), none, none] [] mem := by
  intro n
  induction n with
  | zero => intro mem x1 x2 x3 x4 z h; cases h
  | succ n ih =>
    intro mem x1 x2 x3 x4 z h he
    rw [fChance_blowOnce_L3] at h
    refine zk_iload dX2_blowOnce_3 rfl ?_
    refine zk_bipush dX2_blowOnce_5 zkb_36 ?_
    refine zk_icmp_ge 24 dX2_blowOnce_7 rfl (fun c3 => ?_) (fun c3 => ?_)
    · have h := zk_it _ h c3
      cases h
      exact zk_weak (zk_leS (zk_leS (zk_leS (zk_leS (zk_leN (zk_leN (zk_leN zk_leE))))))) he
    · have h := zk_if _ h c3
      refine zk_aload_n (i := 0) dX2_blowOnce_10 rfl rfl ?_
      refine zk_getR 41 2 1 dX2_blowOnce_11 zf_X2_15 (Nat.le_of_ble_eq_true rfl) rfl rfl ?_
      refine zk_iload dX2_blowOnce_14 rfl ?_
      refine zk_lconst (v := 0) dX2_blowOnce_16 rfl ?_
      obtain ⟨b1, h⟩ := zk_gd h
      obtain ⟨m2, em2, h⟩ := zk_lt h
      refine zk_lastore' 43 36 dX2_blowOnce_17 (Nat.le_of_ble_eq_true rfl) rfl (zk_inb_in b1) em2 ?_
      refine zk_iinc2 dX2_blowOnce_18 rfl zki_1 (Nat.le_of_ble_eq_true rfl) rfl ?_
      refine zk_goto 3 dX2_blowOnce_21 rfl ?_
      exact zk_weak (zk_leS (zk_leS (zk_leS (zk_leS (zk_leS (zk_leN (zk_leN zk_leE))))))) (ih m2 x1 x2 x3 (x4 + (1 : Int32)) _ h he)
set_option maxRecDepth 100000 in
set_option maxHeartbeats 4000000 in
theorem fChance_blowOnce_L46_ok {d : Nat} {Z : zkZ} (hd : 1 ≤ d)  : ∀ (n : Nat) (mem : zkM) (x1 : Int32) (x2 : Int32) (x3 : Int32) (x4 : Int32) (x5 : Int32) (x6 : Int32) (z : zkM), fChance_blowOnce_L46 n mem x3 x5 x6 = some z → zk_J zSX d zY_X2_blowOnce Z 81 [some (.ref 41), some (.int x1), some (.int x2), some (.int x3), some (.int x4), none, none] [] z → zk_J zSX d zY_X2_blowOnce Z 46 [some (.ref 41), some (.int x1), some (.int x2), some (.int x3), some (.int x4), some (.int x5), some (.int x6)] [] mem := by
  intro n
  induction n with
  | zero => intro mem x1 x2 x3 x4 x5 x6 z h; cases h
  | succ n ih =>
    intro mem x1 x2 x3 x4 x5 x6 z h he
    rw [fChance_blowOnce_L46] at h
    refine zk_iload dX2_blowOnce_46 rfl ?_
    refine zk_iload dX2_blowOnce_48 rfl ?_
    refine zk_iadd dX2_blowOnce_50 ?_
    refine zk_iload_n (i := 3) dX2_blowOnce_51 rfl rfl ?_
    refine zk_icmp_ge 81 dX2_blowOnce_52 rfl (fun c5 => ?_) (fun c5 => ?_)
    · have h := zk_it _ h c5
      cases h
      exact zk_weak (zk_leS (zk_leS (zk_leS (zk_leS (zk_leS (zk_leN (zk_leN zk_leE))))))) he
    · have h := zk_if _ h c5
      refine zk_aload_n (i := 0) dX2_blowOnce_55 rfl rfl ?_
      refine zk_getR 41 2 1 dX2_blowOnce_56 zf_X2_15 (Nat.le_of_ble_eq_true rfl) rfl rfl ?_
      refine zk_iload dX2_blowOnce_59 rfl ?_
      refine zk_iload dX2_blowOnce_61 rfl ?_
      refine zk_iadd dX2_blowOnce_63 ?_
      refine zk_dup2 dX2_blowOnce_64 rfl rfl ?_
      obtain ⟨b1, h⟩ := zk_gd h
      refine zk_laload 43 36 dX2_blowOnce_65 (Nat.le_of_ble_eq_true rfl) rfl (zk_inb_in b1) ?_
      refine zk_aload_n (i := 0) dX2_blowOnce_66 rfl rfl ?_
      refine zk_getR 41 2 0 dX2_blowOnce_67 zf_X2_11 (Nat.le_of_ble_eq_true rfl) rfl rfl ?_
      refine zk_iload dX2_blowOnce_70 rfl ?_
      obtain ⟨b2, h⟩ := zk_gd h
      refine zk_laload 42 36 dX2_blowOnce_72 (Nat.le_of_ble_eq_true rfl) rfl (zk_inb_in b2) ?_
      refine zk_ladd dX2_blowOnce_73 ?_
      obtain ⟨b3, h⟩ := zk_gd h
      obtain ⟨m4, em4, h⟩ := zk_lt h
      refine zk_lastore' 43 36 dX2_blowOnce_74 (Nat.le_of_ble_eq_true rfl) rfl (zk_inb_in b3) em4 ?_
      refine zk_iinc2 dX2_blowOnce_75 rfl zki_1 (Nat.le_of_ble_eq_true rfl) rfl ?_
      refine zk_goto 46 dX2_blowOnce_78 rfl ?_
      exact zk_weak (zk_leS (zk_leS (zk_leS (zk_leS (zk_leS (zk_leS (zk_leS zk_leE))))))) (ih m4 x1 x2 x3 x4 x5 (x6 + (1 : Int32)) _ h he)
set_option maxRecDepth 100000 in
set_option maxHeartbeats 4000000 in
theorem fChance_blowOnce_L27_ok {d : Nat} {Z : zkZ} (hd : 1 ≤ d)  : ∀ (n : Nat) (mem : zkM) (x1 : Int32) (x2 : Int32) (x3 : Int32) (x4 : Int32) (z : zkM), fChance_blowOnce_L27 n mem x1 x2 x3 x4 = some z → zk_J zSX d zY_X2_blowOnce Z 87 [some (.ref 41), none, none, none, none, none, none] [] z → zk_J zSX d zY_X2_blowOnce Z 27 [some (.ref 41), some (.int x1), some (.int x2), some (.int x3), some (.int x4), none, none] [] mem := by
  intro n
  induction n with
  | zero => intro mem x1 x2 x3 x4 z h; cases h
  | succ n ih =>
    intro mem x1 x2 x3 x4 z h he
    rw [fChance_blowOnce_L27] at h
    refine zk_iload dX2_blowOnce_27 rfl ?_
    refine zk_bipush dX2_blowOnce_29 zkb_6 ?_
    refine zk_icmp_gt 87 dX2_blowOnce_31 rfl (fun c3 => ?_) (fun c3 => ?_)
    · have h := zk_it _ h c3
      cases h
      exact zk_weak (zk_leS (zk_leN (zk_leN (zk_leN (zk_leN (zk_leN (zk_leN zk_leE))))))) he
    · have h := zk_if _ h c3
      refine zk_iload_n (i := 1) dX2_blowOnce_34 rfl rfl ?_
      refine zk_iload_n (i := 2) dX2_blowOnce_35 rfl rfl ?_
      refine zk_iload dX2_blowOnce_36 rfl ?_
      refine zk_callNi zY_X11_growth [_, _, _] dX2_blowOnce_38 zl_X11_growth zc_X2_38 (fTp_growth_ok (d := 0) (Nat.le_refl _) mem _ _ _ _ rfl) (Nat.lt_of_lt_of_le (by decide) hd) (Nat.le_of_ble_eq_true rfl) ?_
      obtain ⟨v1, ev1, h⟩ := zk_lt h
      refine zk_istore' dX2_blowOnce_41 ev1 (Nat.le_of_ble_eq_true rfl) rfl ?_
      refine zk_iconst dX2_blowOnce_43 zki_0 ?_
      refine zk_istore dX2_blowOnce_44 (Nat.le_of_ble_eq_true rfl) rfl ?_
      obtain ⟨q2, hq2, h⟩ := zk_ob h
      refine zk_weak (zk_leS (zk_leS (zk_leS (zk_leS (zk_leS (zk_leS (zk_leS zk_leE))))))) (fChance_blowOnce_L46_ok hd 500 mem x1 x2 x3 x4 v1 (0 : Int32) _ hq2 ?_)
      refine zk_iinc2 dX2_blowOnce_81 rfl zki_1 (Nat.le_of_ble_eq_true rfl) rfl ?_
      refine zk_goto 27 dX2_blowOnce_84 rfl ?_
      exact zk_weak (zk_leS (zk_leS (zk_leS (zk_leS (zk_leS (zk_leN (zk_leN zk_leE))))))) (ih q2 x1 x2 x3 (x4 + (1 : Int32)) _ h he)
set_option maxRecDepth 100000 in
set_option maxHeartbeats 4000000 in
theorem fChance_blowOnce_ok {d : Nat} (hd : 1 ≤ d) (mem : zkM) (a1 : Int32) (a2 : Int32) (a3 : Int32) (z : zkM) (h : fChance_blowOnce mem a1 a2 a3 = some z) : zk_X zSX d zY_X2_blowOnce [.ref 41, .int a1, .int a2, .int a3] mem (none, z) := by
  unfold fChance_blowOnce at h
  refine zk_meet (n := 3) (lv := [some (.ref 41), some (.int a1), some (.int a2), some (.int a3), none, none, none]) zpn_X2 rfl (Nat.le_of_ble_eq_true rfl) ?_
  refine zk_iconst dX2_blowOnce_0 zki_0 ?_
  refine zk_istore dX2_blowOnce_1 (Nat.le_of_ble_eq_true rfl) rfl ?_
  obtain ⟨q1, hq1, h⟩ := zk_ob h
  refine zk_weak (zk_leS (zk_leS (zk_leS (zk_leS (zk_leS (zk_leN (zk_leN zk_leE))))))) (fChance_blowOnce_L3_ok hd 500 mem a1 a2 a3 (0 : Int32) _ hq1 ?_)
  refine zk_iconst dX2_blowOnce_24 zki_1 ?_
  refine zk_istore dX2_blowOnce_25 (Nat.le_of_ble_eq_true rfl) rfl ?_
  obtain ⟨q2, hq2, h⟩ := zk_ob h
  refine zk_weak (zk_leS (zk_leS (zk_leS (zk_leS (zk_leS (zk_leN (zk_leN zk_leE))))))) (fChance_blowOnce_L27_ok hd 500 q1 a1 a2 a3 (1 : Int32) _ hq2 ?_)
  refine zk_aload_n (i := 0) dX2_blowOnce_87 rfl rfl ?_
  refine zk_getR 41 2 1 dX2_blowOnce_88 zf_X2_15 (Nat.le_of_ble_eq_true rfl) rfl rfl ?_
  refine zk_iconst dX2_blowOnce_91 zki_0 ?_
  refine zk_aload_n (i := 0) dX2_blowOnce_92 rfl rfl ?_
  refine zk_getR 41 2 0 dX2_blowOnce_93 zf_X2_11 (Nat.le_of_ble_eq_true rfl) rfl rfl ?_
  refine zk_iconst dX2_blowOnce_96 zki_0 ?_
  refine zk_bipush dX2_blowOnce_97 zkb_36 ?_
  obtain ⟨m3, em3, h⟩ := zk_lt h
  refine zk_copyL 43 42 36 36 36 dX2_blowOnce_99 zc_X2_42 zac (Nat.le_of_ble_eq_true rfl) (Nat.le_of_ble_eq_true rfl) rfl rfl (by decide) (by decide) (by decide) (by decide) (Nat.le_of_ble_eq_true rfl) em3 ?_
  exact zk_vreturn dX2_blowOnce_102 rfl (zk_rVw (Option.some.inj h))
set_option maxRecDepth 100000 in
set_option maxHeartbeats 4000000 in
theorem fChance_waysToStay_L24_ok {d : Nat} {Z : zkZ} (hd : 2 ≤ d)  : ∀ (n : Nat) (mem : zkM) (x1 : Int32) (x2 : Int32) (x3 : Int32) (x4 : Int32) (x5 : Int32) (x6 : Int32) (z : zkM), fChance_waysToStay_L24 n mem x2 x6 = some z → zk_J zSX d zY_X2_waysToStay Z 55 [some (.ref 41), some (.int x1), none, some (.int x3), some (.int x4), some (.int x5), none, none, none] [] z → zk_J zSX d zY_X2_waysToStay Z 24 [some (.ref 41), some (.int x1), some (.int x2), some (.int x3), some (.int x4), some (.int x5), some (.int x6), none, none] [] mem := by
  intro n
  induction n with
  | zero => intro mem x1 x2 x3 x4 x5 x6 z h; cases h
  | succ n ih =>
    intro mem x1 x2 x3 x4 x5 x6 z h he
    rw [fChance_waysToStay_L24] at h
    refine zk_iload dX2_waysToStay_24 rfl ?_
    refine zk_bipush dX2_waysToStay_26 zkb_36 ?_
    refine zk_icmp_ge 55 dX2_waysToStay_28 rfl (fun c5 => ?_) (fun c5 => ?_)
    · have h := zk_it _ h c5
      cases h
      exact zk_weak (zk_leS (zk_leS (zk_leN (zk_leS (zk_leS (zk_leS (zk_leN (zk_leN (zk_leN zk_leE))))))))) he
    · have h := zk_if _ h c5
      refine zk_aload_n (i := 0) dX2_waysToStay_31 rfl rfl ?_
      refine zk_getR 41 2 0 dX2_waysToStay_32 zf_X2_11 (Nat.le_of_ble_eq_true rfl) rfl rfl ?_
      refine zk_iload dX2_waysToStay_35 rfl ?_
      refine zk_iload dX2_waysToStay_37 rfl ?_
      refine zk_iload_n (i := 2) dX2_waysToStay_39 rfl rfl ?_
      obtain ⟨q1, hq1, h⟩ := zk_lt h
      have Jq1 : zk_J zSX d zY_X2_waysToStay Z 48 [some (.ref 41), some (.int x1), some (.int x2), some (.int x3), some (.int x4), some (.int x5), some (.int x6), none, none] [.long q1, .int x6, .ref 42] mem := by
        obtain ⟨b3, h⟩ := zk_gd h
        obtain ⟨m4, em4, h⟩ := zk_lt h
        refine zk_lastore' 42 36 dX2_waysToStay_48 (Nat.le_of_ble_eq_true rfl) rfl (zk_inb_in b3) em4 ?_
        refine zk_iinc2 dX2_waysToStay_49 rfl zki_1 (Nat.le_of_ble_eq_true rfl) rfl ?_
        refine zk_goto 24 dX2_waysToStay_52 rfl ?_
        exact zk_weak (zk_leS (zk_leS (zk_leS (zk_leS (zk_leS (zk_leS (zk_leS (zk_leN (zk_leN zk_leE))))))))) (ih m4 x1 x2 x3 x4 x5 (x6 + (1 : Int32)) _ h he)
      have h := hq1
      clear hq1
      refine zk_icmp_ne 47 dX2_waysToStay_40 rfl (fun c2 => ?_) (fun c2 => ?_)
      · have h := zk_if _ h c2
        refine zk_lconst (v := 0) dX2_waysToStay_47 rfl ?_
        subst h
        exact zk_weak (zk_leS (zk_leS (zk_leS (zk_leS (zk_leS (zk_leS (zk_leS (zk_leN (zk_leN zk_leE))))))))) Jq1
      · have h := zk_it _ h c2
        refine zk_lconst (v := 1) dX2_waysToStay_43 rfl ?_
        refine zk_goto 48 dX2_waysToStay_44 rfl ?_
        subst h
        exact zk_weak (zk_leS (zk_leS (zk_leS (zk_leS (zk_leS (zk_leS (zk_leS (zk_leN (zk_leN zk_leE))))))))) Jq1
set_option maxRecDepth 100000 in
set_option maxHeartbeats 4000000 in
theorem fChance_waysToStay_L58_ok {d : Nat} {Z : zkZ} (hd : 2 ≤ d)  : ∀ (n : Nat) (mem : zkM) (x1 : Int32) (x3 : Int32) (x4 : Int32) (x5 : Int32) (x6 : Int32) (z : zkM), fChance_waysToStay_L58 n mem x1 x3 x4 x5 x6 = some z → zk_J zSX d zY_X2_waysToStay Z 79 [some (.ref 41), none, none, none, none, some (.int x5), none, none, none] [] z → zk_J zSX d zY_X2_waysToStay Z 58 [some (.ref 41), some (.int x1), none, some (.int x3), some (.int x4), some (.int x5), some (.int x6), none, none] [] mem := by
  intro n
  induction n with
  | zero => intro mem x1 x3 x4 x5 x6 z h; cases h
  | succ n ih =>
    intro mem x1 x3 x4 x5 x6 z h he
    rw [fChance_waysToStay_L58] at h
    refine zk_iload dX2_waysToStay_58 rfl ?_
    refine zk_iload dX2_waysToStay_60 rfl ?_
    refine zk_icmp_ge 79 dX2_waysToStay_62 rfl (fun c2 => ?_) (fun c2 => ?_)
    · have h := zk_it _ h c2
      cases h
      exact zk_weak (zk_leS (zk_leN (zk_leN (zk_leN (zk_leN (zk_leS (zk_leN (zk_leN (zk_leN zk_leE))))))))) he
    · have h := zk_if _ h c2
      refine zk_aload_n (i := 0) dX2_waysToStay_65 rfl rfl ?_
      refine zk_iload_n (i := 1) dX2_waysToStay_66 rfl rfl ?_
      refine zk_iload_n (i := 3) dX2_waysToStay_67 rfl rfl ?_
      refine zk_iload dX2_waysToStay_68 rfl ?_
      obtain ⟨q1, hq1, h⟩ := zk_ob h
      refine zk_callVv zY_X2_blowOnce 41 2 [_, _, _] dX2_waysToStay_70 zl_X2_blowOnce zc_X2_34 zk_ok2 (Nat.le_of_ble_eq_true rfl) rfl (fChance_blowOnce_ok (d := 1) (Nat.le_refl _) mem _ _ _ _ hq1) (Nat.lt_of_lt_of_le (by decide) hd) (Nat.le_of_ble_eq_true rfl) ?_
      refine zk_iinc2 dX2_waysToStay_73 rfl zki_1 (Nat.le_of_ble_eq_true rfl) rfl ?_
      refine zk_goto 58 dX2_waysToStay_76 rfl ?_
      exact zk_weak (zk_leS (zk_leS (zk_leN (zk_leS (zk_leS (zk_leS (zk_leS (zk_leN (zk_leN zk_leE))))))))) (ih q1 x1 x3 x4 x5 (x6 + (1 : Int32)) _ h he)
set_option maxRecDepth 100000 in
set_option maxHeartbeats 4000000 in
theorem fChance_waysToStay_L85_ok {d : Nat} {Z : zkZ} (hd : 2 ≤ d)  : ∀ (n : Nat) (mem : zkM) (x5 : Int32) (x6 : Int64) (x8 : Int32) (z : Int64), fChance_waysToStay_L85 n mem x5 x6 x8 = some z → zk_J zSX d zY_X2_waysToStay Z 110 [none, none, none, none, none, none, some (.long z), none, none] [] mem → zk_J zSX d zY_X2_waysToStay Z 85 [some (.ref 41), none, none, none, none, some (.int x5), some (.long x6), none, some (.int x8)] [] mem := by
  intro n
  induction n with
  | zero => intro mem x5 x6 x8 z h; cases h
  | succ n ih =>
    intro mem x5 x6 x8 z h he
    rw [fChance_waysToStay_L85] at h
    refine zk_iload dX2_waysToStay_85 rfl ?_
    refine zk_iload dX2_waysToStay_87 rfl ?_
    refine zk_icmp_ge 110 dX2_waysToStay_89 rfl (fun c3 => ?_) (fun c3 => ?_)
    · have h := zk_it _ h c3
      cases h
      exact zk_weak (zk_leN (zk_leN (zk_leN (zk_leN (zk_leN (zk_leN (zk_leS (zk_leN (zk_leN zk_leE))))))))) he
    · have h := zk_if _ h c3
      refine zk_lload dX2_waysToStay_92 rfl ?_
      refine zk_aload_n (i := 0) dX2_waysToStay_94 rfl rfl ?_
      refine zk_getR 41 2 0 dX2_waysToStay_95 zf_X2_11 (Nat.le_of_ble_eq_true rfl) rfl rfl ?_
      refine zk_iload dX2_waysToStay_98 rfl ?_
      obtain ⟨b1, h⟩ := zk_gd h
      refine zk_laload 42 36 dX2_waysToStay_100 (Nat.le_of_ble_eq_true rfl) rfl (zk_inb_in b1) ?_
      refine zk_ladd dX2_waysToStay_101 ?_
      obtain ⟨v2, ev2, h⟩ := zk_lt h
      refine zk_lstore' dX2_waysToStay_102 ev2 (Nat.le_of_ble_eq_true rfl) rfl ?_
      refine zk_iinc2 dX2_waysToStay_104 rfl zki_1 (Nat.le_of_ble_eq_true rfl) rfl ?_
      refine zk_goto 85 dX2_waysToStay_107 rfl ?_
      exact zk_weak (zk_leS (zk_leN (zk_leN (zk_leN (zk_leN (zk_leS (zk_leS (zk_leN (zk_leS zk_leE))))))))) (ih mem x5 v2 (x8 + (1 : Int32)) _ h he)
set_option maxRecDepth 100000 in
set_option maxHeartbeats 4000000 in
theorem fChance_waysToStay_ok {d : Nat} (hd : 2 ≤ d) (mem : zkM) (a1 : Int32) (a2 : Int32) (a3 : Int32) (a4 : Int32) (z : Int64 × zkM) (h : fChance_waysToStay mem a1 a2 a3 a4 = some z) : zk_X zSX d zY_X2_waysToStay [.ref 41, .int a1, .int a2, .int a3, .int a4] mem (some (.long z.1), z.2) := by
  unfold fChance_waysToStay at h
  refine zk_meet (n := 4) (lv := [some (.ref 41), some (.int a1), some (.int a2), some (.int a3), some (.int a4), none, none, none, none]) zpn_X2 rfl (Nat.le_of_ble_eq_true rfl) ?_
  refine zk_iload_n (i := 1) dX2_waysToStay_0 rfl rfl ?_
  refine zk_if_ne 10 dX2_waysToStay_1 rfl (fun c6 => ?_) (fun c6 => ?_)
  · have h := zk_if _ h c6
    refine zk_iload_n (i := 1) dX2_waysToStay_10 rfl rfl ?_
    refine zk_callNi zY_X11_givesAt [_] dX2_waysToStay_11 zl_X11_givesAt zc_X2_24 (fTp_givesAt_ok (d := 0) (Nat.le_refl _) mem _ _ rfl) (Nat.lt_of_lt_of_le (by decide) hd) (Nat.le_of_ble_eq_true rfl) ?_
    refine zk_bipush dX2_waysToStay_14 zkb_36 ?_
    refine zk_mmin dX2_waysToStay_16 zc_X2_28 zm_min (Nat.le_of_ble_eq_true rfl) ?_
    obtain ⟨v1, ev1, h⟩ := zk_lt h
    refine zk_istore' dX2_waysToStay_19 ev1 (Nat.le_of_ble_eq_true rfl) rfl ?_
    refine zk_iconst dX2_waysToStay_21 zki_0 ?_
    refine zk_istore dX2_waysToStay_22 (Nat.le_of_ble_eq_true rfl) rfl ?_
    obtain ⟨q2, hq2, h⟩ := zk_ob h
    refine zk_weak (zk_leS (zk_leS (zk_leS (zk_leS (zk_leS (zk_leS (zk_leS (zk_leN (zk_leN zk_leE))))))))) (fChance_waysToStay_L24_ok hd 500 mem a1 a2 a3 a4 v1 (0 : Int32) _ hq2 ?_)
    refine zk_iconst dX2_waysToStay_55 zki_0 ?_
    refine zk_istore dX2_waysToStay_56 (Nat.le_of_ble_eq_true rfl) rfl ?_
    obtain ⟨q3, hq3, h⟩ := zk_ob h
    refine zk_weak (zk_leS (zk_leS (zk_leN (zk_leS (zk_leS (zk_leS (zk_leS (zk_leN (zk_leN zk_leE))))))))) (fChance_waysToStay_L58_ok hd 500 q2 a1 a3 a4 v1 (0 : Int32) _ hq3 ?_)
    refine zk_lconst (v := 0) dX2_waysToStay_79 rfl ?_
    refine zk_lstore dX2_waysToStay_80 (Nat.le_of_ble_eq_true rfl) rfl ?_
    refine zk_iconst dX2_waysToStay_82 zki_0 ?_
    refine zk_istore dX2_waysToStay_83 (Nat.le_of_ble_eq_true rfl) rfl ?_
    obtain ⟨q4, hq4, h⟩ := zk_ob h
    refine zk_weak (zk_leS (zk_leN (zk_leN (zk_leN (zk_leN (zk_leS (zk_leS (zk_leN (zk_leS zk_leE))))))))) (fChance_waysToStay_L85_ok hd 500 q3 v1 (0 : Int64) (0 : Int32) _ hq4 ?_)
    refine zk_lload dX2_waysToStay_110 rfl ?_
    exact zk_lreturn dX2_waysToStay_112 rfl (zk_rLw (Option.some.inj h))
  · have h := zk_it _ h c6
    refine zk_iload dX2_waysToStay_4 rfl ?_
    obtain ⟨q5, hq5, h⟩ := zk_ob h
    refine zk_callSl zY_X2_allWays [_] dX2_waysToStay_6 zl_X2_allWays zc_X2_20 (fChance_allWays_ok (d := 0) (Nat.le_refl _) mem _ _ hq5) (Nat.lt_of_lt_of_le (by decide) hd) (Nat.le_of_ble_eq_true rfl) ?_
    exact zk_lreturn dX2_waysToStay_9 rfl (zk_rLw (Option.some.inj h))
set_option maxRecDepth 100000 in
set_option maxHeartbeats 4000000 in
theorem fChance_greatestShared_L3_ok {d : Nat} {Z : zkZ} (hd : 0 ≤ d)  : ∀ (n : Nat) (mem : zkM) (x0 : Int64) (x2 : Int64) (x4 : Int32) (z : Int64), fChance_greatestShared_L3 n mem x0 x2 x4 = some z → zk_J zSX d zY_X2_greatestShared Z 33 [some (.long z), none, none, none, none, none, none] [] mem → zk_J zSX d zY_X2_greatestShared Z 3 [some (.long x0), none, some (.long x2), none, some (.int x4), none, none] [] mem := by
  intro n
  induction n with
  | zero => intro mem x0 x2 x4 z h; cases h
  | succ n ih =>
    intro mem x0 x2 x4 z h he
    rw [fChance_greatestShared_L3] at h
    refine zk_iload dX2_greatestShared_3 rfl ?_
    refine zk_sipush dX2_greatestShared_5 zks_128 ?_
    refine zk_icmp_ge 33 dX2_greatestShared_8 rfl (fun c4 => ?_) (fun c4 => ?_)
    · have h := zk_it _ h c4
      cases h
      exact zk_weak (zk_leS (zk_leN (zk_leN (zk_leN (zk_leN (zk_leN (zk_leN zk_leE))))))) he
    · have h := zk_if _ h c4
      refine zk_lload_n (i := 2) dX2_greatestShared_11 rfl rfl ?_
      refine zk_lconst (v := 0) dX2_greatestShared_12 rfl ?_
      refine zk_lcmp dX2_greatestShared_13 ?_
      refine zk_if_eq 33 dX2_greatestShared_14 rfl (fun c3 => ?_) (fun c3 => ?_)
      · have h := zk_it _ h c3
        cases h
        exact zk_weak (zk_leS (zk_leN (zk_leN (zk_leN (zk_leN (zk_leN (zk_leN zk_leE))))))) he
      · have h := zk_if _ h c3
        refine zk_lload_n (i := 0) dX2_greatestShared_17 rfl rfl ?_
        refine zk_lload_n (i := 2) dX2_greatestShared_18 rfl rfl ?_
        obtain ⟨b1, h⟩ := zk_dz h
        refine zk_lrem dX2_greatestShared_19 b1 ?_
        obtain ⟨v2, ev2, h⟩ := zk_lt h
        refine zk_lstore' dX2_greatestShared_20 ev2 (Nat.le_of_ble_eq_true rfl) rfl ?_
        refine zk_lload_n (i := 2) dX2_greatestShared_22 rfl rfl ?_
        refine zk_lstore_n (i := 0) dX2_greatestShared_23 rfl (Nat.le_of_ble_eq_true rfl) rfl ?_
        refine zk_lload dX2_greatestShared_24 rfl ?_
        refine zk_lstore_n (i := 2) dX2_greatestShared_26 rfl (Nat.le_of_ble_eq_true rfl) rfl ?_
        refine zk_iinc2 dX2_greatestShared_27 rfl zki_1 (Nat.le_of_ble_eq_true rfl) rfl ?_
        refine zk_goto 3 dX2_greatestShared_30 rfl ?_
        exact zk_weak (zk_leS (zk_leN (zk_leS (zk_leN (zk_leS (zk_leN (zk_leN zk_leE))))))) (ih mem x2 v2 (x4 + (1 : Int32)) _ h he)
set_option maxRecDepth 100000 in
set_option maxHeartbeats 4000000 in
theorem fChance_greatestShared_ok {d : Nat} (hd : 0 ≤ d) (mem : zkM) (a0 : Int64) (a1 : Int64) (z : Int64) (h : fChance_greatestShared mem a0 a1 = some z) : zk_X zSX d zY_X2_greatestShared [.long a0, .long a1] mem (some (.long z), mem) := by
  unfold fChance_greatestShared at h
  refine zk_meet (n := 3) (lv := [some (.long a0), none, some (.long a1), none, none, none, none]) zpn_X2 rfl (Nat.le_of_ble_eq_true rfl) ?_
  refine zk_iconst dX2_greatestShared_0 zki_0 ?_
  refine zk_istore dX2_greatestShared_1 (Nat.le_of_ble_eq_true rfl) rfl ?_
  obtain ⟨q1, hq1, h⟩ := zk_ob h
  refine zk_weak (zk_leS (zk_leN (zk_leS (zk_leN (zk_leS (zk_leN (zk_leN zk_leE))))))) (fChance_greatestShared_L3_ok hd 500 mem a0 a1 (0 : Int32) _ hq1 ?_)
  refine zk_lload_n (i := 0) dX2_greatestShared_33 rfl rfl ?_
  exact zk_lreturn dX2_greatestShared_34 rfl (zk_rL (Option.some.inj h))
set_option maxRecDepth 100000 in
set_option maxHeartbeats 4000000 in
theorem fTp_odds_ok {d : Nat} (hd : 3 ≤ d) (mem : zkM) (a1 : Int32) (a2 : Int32) (a3 : Int32) (a4 : Int32) (z : Int64 × zkM) (h : fTp_odds mem a1 a2 a3 a4 = some z) : zk_X zSX d zY_X11_odds [.ref 0, .int a1, .int a2, .int a3, .int a4] mem (some (.long z.1), z.2) := by
  unfold fTp_odds at h
  refine zk_meet (n := 7) (lv := [some (.ref 0), some (.int a1), some (.int a2), some (.int a3), some (.int a4), none, none, none, none, none, none, none]) zpn_X11 rfl (Nat.le_of_ble_eq_true rfl) ?_
  refine zk_aload_n (i := 0) dX11_odds_0 rfl rfl ?_
  refine zk_iload_n (i := 1) dX11_odds_1 rfl rfl ?_
  refine zk_iload_n (i := 2) dX11_odds_2 rfl rfl ?_
  refine zk_callVi zY_X11_isEnd 0 11 [_, _] dX11_odds_3 zl_X11_isEnd zc_X11_152 zk_ok11 (Nat.le_of_ble_eq_true rfl) rfl (fTp_isEnd_ok (d := 2) (Nat.le_refl _) mem _ _ _ rfl) (Nat.lt_of_lt_of_le (by decide) hd) (Nat.le_of_ble_eq_true rfl) ?_
  refine zk_if_eq 29 dX11_odds_6 rfl (fun c16 => ?_) (fun c16 => ?_)
  · have h := zk_it _ h c16
    refine zk_ldc2 dX11_odds_29 zd_X11_260 ?_
    exact zk_lreturn dX11_odds_32 rfl (zk_rLw (Option.some.inj h))
  · have h := zk_if _ h c16
    refine zk_iload_n (i := 3) dX11_odds_9 rfl rfl ?_
    refine zk_iconst dX11_odds_10 zki_0 ?_
    refine zk_bipush dX11_odds_11 zkb_6 ?_
    refine zk_callSi zY_X11_within [_, _, _] dX11_odds_13 zl_X11_within zc_X11_93 (fTp_within_ok (d := 0) (Nat.le_refl _) mem _ _ _ _ rfl) (Nat.lt_of_lt_of_le (by decide) hd) (Nat.le_of_ble_eq_true rfl) ?_
    refine zk_if_eq 29 dX11_odds_16 rfl (fun c15 => ?_) (fun c15 => ?_)
    · have h := zk_it _ h c15
      refine zk_ldc2 dX11_odds_29 zd_X11_260 ?_
      exact zk_lreturn dX11_odds_32 rfl (zk_rLw (Option.some.inj h))
    · have h := zk_if _ h c15
      refine zk_iload dX11_odds_19 rfl ?_
      refine zk_iconst dX11_odds_21 zki_0 ?_
      refine zk_iconst dX11_odds_22 zki_1 ?_
      refine zk_callSi zY_X11_within [_, _, _] dX11_odds_23 zl_X11_within zc_X11_93 (fTp_within_ok (d := 0) (Nat.le_refl _) mem _ _ _ _ rfl) (Nat.lt_of_lt_of_le (by decide) hd) (Nat.le_of_ble_eq_true rfl) ?_
      refine zk_if_ne 33 dX11_odds_26 rfl (fun c14 => ?_) (fun c14 => ?_)
      · have h := zk_if _ h c14
        refine zk_iconst dX11_odds_33 zki_2 ?_
        refine zk_iload_n (i := 1) dX11_odds_34 rfl rfl ?_
        refine zk_imul dX11_odds_35 ?_
        refine zk_iload_n (i := 2) dX11_odds_36 rfl rfl ?_
        refine zk_iadd dX11_odds_37 ?_
        obtain ⟨v1, ev1, h⟩ := zk_lt h
        refine zk_istore' dX11_odds_38 ev1 (Nat.le_of_ble_eq_true rfl) rfl ?_
        refine zk_aload_n (i := 0) dX11_odds_40 rfl rfl ?_
        refine zk_getR 0 11 1 dX11_odds_41 zf_X11_19 (Nat.le_of_ble_eq_true rfl) rfl rfl ?_
        refine zk_iload dX11_odds_44 rfl ?_
        obtain ⟨q2, hq2, h⟩ := zk_ob h
        refine zk_callVi zY_X8_isOut 4 8 [_] dX11_odds_46 zl_X8_isOut zc_X11_163 zk_ok8 (Nat.le_of_ble_eq_true rfl) rfl (fScene_isOut_ok (d := 0) (Nat.le_refl _) mem _ _ hq2) (Nat.lt_of_lt_of_le (by decide) hd) (Nat.le_of_ble_eq_true rfl) ?_
        refine zk_if_eq 56 dX11_odds_49 rfl (fun c13 => ?_) (fun c13 => ?_)
        · have h := zk_it _ h c13
          refine zk_iload_n (i := 3) dX11_odds_56 rfl rfl ?_
          obtain ⟨q3, hq3, h⟩ := zk_ob h
          refine zk_callSl zY_X2_allWays [_] dX11_odds_57 zl_X2_allWays zc_X11_264 (fChance_allWays_ok (d := 0) (Nat.le_refl _) mem _ _ hq3) (Nat.lt_of_lt_of_le (by decide) hd) (Nat.le_of_ble_eq_true rfl) ?_
          refine zk_lstore dX11_odds_60 (Nat.le_of_ble_eq_true rfl) rfl ?_
          refine zk_aload_n (i := 0) dX11_odds_62 rfl rfl ?_
          refine zk_getR 0 11 8 dX11_odds_63 zf_X11_68 (Nat.le_of_ble_eq_true rfl) rfl rfl ?_
          refine zk_aload_n (i := 0) dX11_odds_66 rfl rfl ?_
          refine zk_getR 0 11 1 dX11_odds_67 zf_X11_19 (Nat.le_of_ble_eq_true rfl) rfl rfl ?_
          refine zk_iload dX11_odds_70 rfl ?_
          obtain ⟨q4, hq4, h⟩ := zk_ob h
          refine zk_callVi zY_X8_kindOf 4 8 [_] dX11_odds_72 zl_X8_kindOf zc_X11_156 zk_ok8 (Nat.le_of_ble_eq_true rfl) rfl (fScene_kindOf_ok (d := 0) (Nat.le_refl _) mem _ _ hq4) (Nat.lt_of_lt_of_le (by decide) hd) (Nat.le_of_ble_eq_true rfl) ?_
          refine zk_aload_n (i := 0) dX11_odds_75 rfl rfl ?_
          refine zk_getR 0 11 1 dX11_odds_76 zf_X11_19 (Nat.le_of_ble_eq_true rfl) rfl rfl ?_
          refine zk_iload dX11_odds_79 rfl ?_
          obtain ⟨q5, hq5, h⟩ := zk_ob h
          refine zk_callVi zY_X8_wearOf 4 8 [_] dX11_odds_81 zl_X8_wearOf zc_X11_160 zk_ok8 (Nat.le_of_ble_eq_true rfl) rfl (fScene_wearOf_ok (d := 0) (Nat.le_refl _) mem _ _ hq5) (Nat.lt_of_lt_of_le (by decide) hd) (Nat.le_of_ble_eq_true rfl) ?_
          refine zk_aload_n (i := 0) dX11_odds_84 rfl rfl ?_
          refine zk_getR 0 11 10 dX11_odds_85 zf_X11_82 (Nat.le_of_ble_eq_true rfl) rfl rfl ?_
          refine zk_iload_n (i := 1) dX11_odds_88 rfl rfl ?_
          obtain ⟨q6, hq6, h⟩ := zk_ob h
          refine zk_callVi zY_X10_swayAcross 46 10 [_] dX11_odds_89 zl_X10_swayAcross zc_X11_268 zk_ok10 (Nat.le_of_ble_eq_true rfl) rfl (fTree_swayAcross_ok (d := 0) (Nat.le_refl _) mem _ _ hq6) (Nat.lt_of_lt_of_le (by decide) hd) (Nat.le_of_ble_eq_true rfl) ?_
          refine zk_iload_n (i := 3) dX11_odds_92 rfl rfl ?_
          obtain ⟨q7, hq7, h⟩ := zk_ob h
          refine zk_callVl zY_X2_waysToStay 41 2 [_, _, _, _] dX11_odds_93 zl_X2_waysToStay zc_X11_271 zk_ok2 (Nat.le_of_ble_eq_true rfl) rfl (fChance_waysToStay_ok (d := 2) (Nat.le_refl _) mem _ _ _ _ _ hq7) (Nat.lt_of_lt_of_le (by decide) hd) (Nat.le_of_ble_eq_true rfl) ?_
          refine zk_lstore dX11_odds_96 (Nat.le_of_ble_eq_true rfl) rfl ?_
          refine zk_lload dX11_odds_98 rfl ?_
          refine zk_lload dX11_odds_100 rfl ?_
          obtain ⟨q8, hq8, h⟩ := zk_ob h
          refine zk_callSl zY_X2_greatestShared [_, _] dX11_odds_102 zl_X2_greatestShared zc_X11_275 (fChance_greatestShared_ok (d := 0) (Nat.le_refl _) q7.2 _ _ _ hq8) (Nat.lt_of_lt_of_le (by decide) hd) (Nat.le_of_ble_eq_true rfl) ?_
          refine zk_lstore dX11_odds_105 (Nat.le_of_ble_eq_true rfl) rfl ?_
          refine zk_iload dX11_odds_107 rfl ?_
          obtain ⟨q9, hq9, h⟩ := zk_lt h
          have Jq9 : zk_J zSX d zY_X11_odds (zk_R zSX (some (.long z.1), z.2)) 119 [none, none, none, none, none, none, none, none, none, none, some (.long q8), none] [.long q9] q7.2 := by
            refine zk_lload dX11_odds_119 rfl ?_
            refine zk_lconst (v := 0) dX11_odds_121 rfl ?_
            refine zk_lcmp dX11_odds_122 ?_
            refine zk_if_le 131 dX11_odds_123 rfl (fun c12 => ?_) (fun c12 => ?_)
            · have h := zk_it _ h c12
              refine zk_lconst (v := 1) dX11_odds_131 rfl ?_
              refine zk_ldiv dX11_odds_132 (by decide) ?_
              exact zk_lreturn dX11_odds_133 rfl (zk_rLw (Option.some.inj h))
            · have h := zk_if _ h c12
              refine zk_lload dX11_odds_126 rfl ?_
              refine zk_goto 132 dX11_odds_128 rfl ?_
              obtain ⟨b11, h⟩ := zk_dz h
              refine zk_ldiv dX11_odds_132 b11 ?_
              exact zk_lreturn dX11_odds_133 rfl (zk_rLw (Option.some.inj h))
          have h := hq9
          clear hq9
          refine zk_if_ne 117 dX11_odds_109 rfl (fun c10 => ?_) (fun c10 => ?_)
          · have h := zk_if _ h c10
            refine zk_lload dX11_odds_117 rfl ?_
            subst h
            exact zk_weak (zk_leN (zk_leN (zk_leN (zk_leN (zk_leN (zk_leN (zk_leN (zk_leN (zk_leN (zk_leN (zk_leS (zk_leN zk_leE)))))))))))) Jq9
          · have h := zk_it _ h c10
            refine zk_lload dX11_odds_112 rfl ?_
            refine zk_goto 119 dX11_odds_114 rfl ?_
            subst h
            exact zk_weak (zk_leN (zk_leN (zk_leN (zk_leN (zk_leN (zk_leN (zk_leN (zk_leN (zk_leN (zk_leN (zk_leS (zk_leN zk_leE)))))))))))) Jq9
        · have h := zk_if _ h c13
          refine zk_ldc2 dX11_odds_52 zd_X11_262 ?_
          exact zk_lreturn dX11_odds_55 rfl (zk_rLw (Option.some.inj h))
      · have h := zk_it _ h c14
        refine zk_ldc2 dX11_odds_29 zd_X11_260 ?_
        exact zk_lreturn dX11_odds_32 rfl (zk_rLw (Option.some.inj h))
set_option maxRecDepth 100000 in
set_option maxHeartbeats 4000000 in
theorem fTree_boughsOf_ok {d : Nat} (hd : 0 ≤ d) (mem : zkM) (a1 : Int32) (z : Int32) (h : fTree_boughsOf mem a1 = some z) : zk_X zSX d zY_X10_boughsOf [.ref 46, .int a1] mem (some (.int z), mem) := by
  unfold fTree_boughsOf at h
  refine zk_meet (n := 0) (lv := [some (.ref 46), some (.int a1)]) zpn_X10 rfl (Nat.le_of_ble_eq_true rfl) ?_
  refine zk_iconst dX10_boughsOf_0 zki_1 ?_
  refine zk_aload_n (i := 0) dX10_boughsOf_1 rfl rfl ?_
  refine zk_getR 46 10 7 dX10_boughsOf_2 zf_X10_34 (Nat.le_of_ble_eq_true rfl) rfl rfl ?_
  refine zk_iconst dX10_boughsOf_5 zki_2 ?_
  refine zk_iload_n (i := 1) dX10_boughsOf_6 rfl rfl ?_
  refine zk_imul dX10_boughsOf_7 ?_
  obtain ⟨b1, h⟩ := zk_gd h
  refine zk_iaload 51 12 dX10_boughsOf_8 (Nat.le_of_ble_eq_true rfl) rfl (zk_inb_in b1) ?_
  refine zk_ishl dX10_boughsOf_9 ?_
  refine zk_iconst dX10_boughsOf_10 zki_1 ?_
  refine zk_aload_n (i := 0) dX10_boughsOf_11 rfl rfl ?_
  refine zk_getR 46 10 7 dX10_boughsOf_12 zf_X10_34 (Nat.le_of_ble_eq_true rfl) rfl rfl ?_
  refine zk_iconst dX10_boughsOf_15 zki_2 ?_
  refine zk_iload_n (i := 1) dX10_boughsOf_16 rfl rfl ?_
  refine zk_imul dX10_boughsOf_17 ?_
  refine zk_iconst dX10_boughsOf_18 zki_1 ?_
  refine zk_iadd dX10_boughsOf_19 ?_
  obtain ⟨b2, h⟩ := zk_gd h
  refine zk_iaload 51 12 dX10_boughsOf_20 (Nat.le_of_ble_eq_true rfl) rfl (zk_inb_in b2) ?_
  refine zk_ishl dX10_boughsOf_21 ?_
  refine zk_ior dX10_boughsOf_22 ?_
  exact zk_ireturn dX10_boughsOf_23 rfl (zk_rI (Option.some.inj h))
set_option maxRecDepth 100000 in
set_option maxHeartbeats 4000000 in
theorem fLaying_reachedBy_L4_ok {d : Nat} {Z : zkZ} (hd : 1 ≤ d)  : ∀ (n : Nat) (mem : zkM) (x1 : Int32) (x2 : Int32) (x3 : Int32) (z : Int32), fLaying_reachedBy_L4 n mem x1 x2 x3 = some z → zk_J zSX d zY_X4_reachedBy Z 34 [none, none, some (.int z), none] [] mem → zk_J zSX d zY_X4_reachedBy Z 4 [some (.ref 46), some (.int x1), some (.int x2), some (.int x3)] [] mem := by
  intro n
  induction n with
  | zero => intro mem x1 x2 x3 z h; cases h
  | succ n ih =>
    intro mem x1 x2 x3 z h he
    rw [fLaying_reachedBy_L4] at h
    refine zk_iload_n (i := 3) dX4_reachedBy_4 rfl rfl ?_
    refine zk_aload_n (i := 0) dX4_reachedBy_5 rfl rfl ?_
    refine zk_getI 46 10 1 dX4_reachedBy_6 zf_X4_15 (Nat.le_of_ble_eq_true rfl) rfl rfl ?_
    refine zk_icmp_ge 34 dX4_reachedBy_9 rfl (fun c5 => ?_) (fun c5 => ?_)
    · have h := zk_it _ h c5
      cases h
      exact zk_weak (zk_leN (zk_leN (zk_leS (zk_leN zk_leE)))) he
    · have h := zk_if _ h c5
      refine zk_iload_n (i := 1) dX4_reachedBy_12 rfl rfl ?_
      refine zk_iload_n (i := 3) dX4_reachedBy_13 rfl rfl ?_
      refine zk_ishr dX4_reachedBy_14 ?_
      refine zk_iconst dX4_reachedBy_15 zki_1 ?_
      refine zk_iand dX4_reachedBy_16 ?_
      obtain ⟨q1, hq1, h⟩ := zk_ob h
      have Jq1 : zk_J zSX d zY_X4_reachedBy Z 28 [some (.ref 46), some (.int x1), some (.int q1), some (.int x3)] [] mem := by
        refine zk_iinc2 dX4_reachedBy_28 rfl zki_1 (Nat.le_of_ble_eq_true rfl) rfl ?_
        refine zk_goto 4 dX4_reachedBy_31 rfl ?_
        exact zk_weak (zk_leS (zk_leS (zk_leS (zk_leS zk_leE)))) (ih mem x1 q1 (x3 + (1 : Int32)) _ h he)
      have h := hq1
      clear hq1
      refine zk_if_eq 28 dX4_reachedBy_17 rfl (fun c4 => ?_) (fun c4 => ?_)
      · have h := zk_it _ h c4
        cases h
        exact zk_weak (zk_leS (zk_leS (zk_leS (zk_leS zk_leE)))) Jq1
      · have h := zk_if _ h c4
        refine zk_iload_n (i := 2) dX4_reachedBy_20 rfl rfl ?_
        refine zk_aload_n (i := 0) dX4_reachedBy_21 rfl rfl ?_
        refine zk_iload_n (i := 3) dX4_reachedBy_22 rfl rfl ?_
        obtain ⟨q2, hq2, h⟩ := zk_ob h
        refine zk_callVi zY_X10_boughsOf 46 10 [_] dX4_reachedBy_23 zl_X10_boughsOf zc_X4_32 zk_ok10 (Nat.le_of_ble_eq_true rfl) rfl (fTree_boughsOf_ok (d := 0) (Nat.le_refl _) mem _ _ hq2) (Nat.lt_of_lt_of_le (by decide) hd) (Nat.le_of_ble_eq_true rfl) ?_
        refine zk_ior dX4_reachedBy_26 ?_
        obtain ⟨v3, ev3, h⟩ := zk_lt h
        refine zk_istore_n' (i := 2) dX4_reachedBy_27 rfl ev3 (Nat.le_of_ble_eq_true rfl) rfl ?_
        cases h
        exact zk_weak (zk_leS (zk_leS (zk_leS (zk_leS zk_leE)))) Jq1
set_option maxRecDepth 100000 in
set_option maxHeartbeats 4000000 in
theorem fLaying_reachedBy_ok {d : Nat} (hd : 1 ≤ d) (mem : zkM) (a1 : Int32) (z : Int32) (h : fLaying_reachedBy mem a1 = some z) : zk_X zSX d zY_X4_reachedBy [.ref 46, .int a1] mem (some (.int z), mem) := by
  unfold fLaying_reachedBy at h
  refine zk_meet (n := 2) (lv := [some (.ref 46), some (.int a1), none, none]) zpn_X4 rfl (Nat.le_of_ble_eq_true rfl) ?_
  refine zk_iconst dX4_reachedBy_0 zki_1 ?_
  refine zk_istore_n (i := 2) dX4_reachedBy_1 rfl (Nat.le_of_ble_eq_true rfl) rfl ?_
  refine zk_iconst dX4_reachedBy_2 zki_0 ?_
  refine zk_istore_n (i := 3) dX4_reachedBy_3 rfl (Nat.le_of_ble_eq_true rfl) rfl ?_
  obtain ⟨q1, hq1, h⟩ := zk_ob h
  refine zk_weak (zk_leS (zk_leS (zk_leS (zk_leS zk_leE)))) (fLaying_reachedBy_L4_ok hd 500 mem a1 (1 : Int32) (0 : Int32) _ hq1 ?_)
  refine zk_iload_n (i := 2) dX4_reachedBy_34 rfl rfl ?_
  exact zk_ireturn dX4_reachedBy_35 rfl (zk_rI (Option.some.inj h))
set_option maxRecDepth 100000 in
set_option maxHeartbeats 4000000 in
theorem fLaying_canFollow_ok {d : Nat} (hd : 1 ≤ d) (mem : zkM) (a1 : Int32) (a2 : Int32) (a3 : Int32) (z : Bool) (h : fLaying_canFollow mem a1 a2 a3 = some z) : zk_X zSX d zY_X4_canFollow [.ref 46, .int a1, .int a2, .int a3] mem (some (.int (zk_b z)), mem) := by
  unfold fLaying_canFollow at h
  refine zk_meet (n := 0) (lv := [some (.ref 46), some (.int a1), some (.int a2), some (.int a3)]) zpn_X4 rfl (Nat.le_of_ble_eq_true rfl) ?_
  refine zk_iload_n (i := 1) dX4_canFollow_0 rfl rfl ?_
  refine zk_iload_n (i := 3) dX4_canFollow_1 rfl rfl ?_
  refine zk_ishr dX4_canFollow_2 ?_
  refine zk_iconst dX4_canFollow_3 zki_1 ?_
  refine zk_iand dX4_canFollow_4 ?_
  refine zk_if_ne 22 dX4_canFollow_5 rfl (fun c3 => ?_) (fun c3 => ?_)
  · have h := zk_if _ h c3
    refine zk_iconst dX4_canFollow_22 zki_0 ?_
    exact zk_zreturn dX4_canFollow_23 rfl rfl (zk_rZ (Option.some.inj h))
  · have h := zk_it _ h c3
    refine zk_aload_n (i := 0) dX4_canFollow_8 rfl rfl ?_
    refine zk_iload_n (i := 3) dX4_canFollow_9 rfl rfl ?_
    obtain ⟨q1, hq1, h⟩ := zk_ob h
    refine zk_callVi zY_X10_boughsOf 46 10 [_] dX4_canFollow_10 zl_X10_boughsOf zc_X4_32 zk_ok10 (Nat.le_of_ble_eq_true rfl) rfl (fTree_boughsOf_ok (d := 0) (Nat.le_refl _) mem _ _ hq1) (Nat.lt_of_lt_of_le (by decide) hd) (Nat.le_of_ble_eq_true rfl) ?_
    refine zk_iload_n (i := 2) dX4_canFollow_13 rfl rfl ?_
    refine zk_iand dX4_canFollow_14 ?_
    refine zk_if_eq 22 dX4_canFollow_15 rfl (fun c2 => ?_) (fun c2 => ?_)
    · have h := zk_it _ h c2
      refine zk_iconst dX4_canFollow_22 zki_0 ?_
      exact zk_zreturn dX4_canFollow_23 rfl rfl (zk_rZ (Option.some.inj h))
    · have h := zk_if _ h c2
      refine zk_iconst dX4_canFollow_18 zki_1 ?_
      refine zk_goto 23 dX4_canFollow_19 rfl ?_
      exact zk_zreturn dX4_canFollow_23 rfl rfl (zk_rZ (Option.some.inj h))
set_option maxRecDepth 100000 in
set_option maxHeartbeats 4000000 in
theorem fLaying_leastNext_L8_ok {d : Nat} {r : Option Value × zkM} (hd : 2 ≤ d)  : ∀ (n : Nat) (mem : zkM) (x1 : Int32) (x2 : Int32) (x3 : Int32) (z : (Int32) ⊕ (Unit)), fLaying_leastNext_L8 n mem x1 x2 x3 = some z → (∀ y, z = .inl y → (some (.int y), mem) = r) → (∀ z', z = .inr z' → zk_J zSX d zY_X4_leastNext (zk_R zSX r) 34 [none, none, none, none] [] mem) → zk_J zSX d zY_X4_leastNext (zk_R zSX r) 8 [some (.ref 46), some (.int x1), some (.int x2), some (.int x3)] [] mem := by
  intro n
  induction n with
  | zero => intro mem x1 x2 x3 z h; cases h
  | succ n ih =>
    intro mem x1 x2 x3 z h hr he
    rw [fLaying_leastNext_L8] at h
    refine zk_iload_n (i := 3) dX4_leastNext_8 rfl rfl ?_
    refine zk_aload_n (i := 0) dX4_leastNext_9 rfl rfl ?_
    refine zk_getI 46 10 1 dX4_leastNext_10 zf_X4_15 (Nat.le_of_ble_eq_true rfl) rfl rfl ?_
    refine zk_icmp_ge 34 dX4_leastNext_13 rfl (fun c3 => ?_) (fun c3 => ?_)
    · have h := zk_it _ h c3
      exact zk_weak (zk_leN (zk_leN (zk_leN (zk_leN zk_leE)))) (he _ (Option.some.inj h).symm)
    · have h := zk_if _ h c3
      refine zk_aload_n (i := 0) dX4_leastNext_16 rfl rfl ?_
      refine zk_iload_n (i := 1) dX4_leastNext_17 rfl rfl ?_
      refine zk_iload_n (i := 2) dX4_leastNext_18 rfl rfl ?_
      refine zk_iload_n (i := 3) dX4_leastNext_19 rfl rfl ?_
      obtain ⟨q1, hq1, h⟩ := zk_ob h
      refine zk_callSi zY_X4_canFollow [_, _, _, _] dX4_leastNext_20 zl_X4_canFollow zc_X4_25 (fLaying_canFollow_ok (d := 1) (Nat.le_refl _) mem _ _ _ _ hq1) (Nat.lt_of_lt_of_le (by decide) hd) (Nat.le_of_ble_eq_true rfl) ?_
      refine zk_if_eq 28 dX4_leastNext_23 rfl (fun c2 => ?_) (fun c2 => ?_)
      · have h := zk_it _ h c2
        refine zk_iinc2 dX4_leastNext_28 rfl zki_1 (Nat.le_of_ble_eq_true rfl) rfl ?_
        refine zk_goto 8 dX4_leastNext_31 rfl ?_
        exact zk_weak (zk_leS (zk_leS (zk_leS (zk_leS zk_leE)))) (ih mem x1 x2 (x3 + (1 : Int32)) _ h hr he)
      · have h := zk_if _ h c2
        refine zk_iload_n (i := 3) dX4_leastNext_26 rfl rfl ?_
        exact zk_ireturn dX4_leastNext_27 rfl ((zk_rI rfl).trans (hr _ (Option.some.inj h).symm))
set_option maxRecDepth 100000 in
set_option maxHeartbeats 4000000 in
theorem fLaying_leastNext_ok {d : Nat} (hd : 2 ≤ d) (mem : zkM) (a1 : Int32) (z : Int32) (h : fLaying_leastNext mem a1 = some z) : zk_X zSX d zY_X4_leastNext [.ref 46, .int a1] mem (some (.int z), mem) := by
  unfold fLaying_leastNext at h
  refine zk_meet (n := 2) (lv := [some (.ref 46), some (.int a1), none, none]) zpn_X4 rfl (Nat.le_of_ble_eq_true rfl) ?_
  refine zk_aload_n (i := 0) dX4_leastNext_0 rfl rfl ?_
  refine zk_iload_n (i := 1) dX4_leastNext_1 rfl rfl ?_
  obtain ⟨q1, hq1, h⟩ := zk_ob h
  refine zk_callSi zY_X4_reachedBy [_, _] dX4_leastNext_2 zl_X4_reachedBy zc_X4_21 (fLaying_reachedBy_ok (d := 1) (Nat.le_refl _) mem _ _ hq1) (Nat.lt_of_lt_of_le (by decide) hd) (Nat.le_of_ble_eq_true rfl) ?_
  refine zk_istore_n (i := 2) dX4_leastNext_5 rfl (Nat.le_of_ble_eq_true rfl) rfl ?_
  refine zk_iconst dX4_leastNext_6 zki_0 ?_
  refine zk_istore_n (i := 3) dX4_leastNext_7 rfl (Nat.le_of_ble_eq_true rfl) rfl ?_
  obtain ⟨q2, hq2, h⟩ := zk_ob h
  refine zk_weak (zk_leS (zk_leS (zk_leS (zk_leS zk_leE)))) (fLaying_leastNext_L8_ok hd 500 mem a1 q1 (0 : Int32) _ hq2 (fun y hy => ?_) (fun q3 hy => ?_))
  · subst hy; have h := zk_el h; cases h; rfl
  subst hy
  have h := zk_er h
  refine zk_bipush dX4_leastNext_34 zkb_m9 ?_
  exact zk_ireturn dX4_leastNext_36 rfl (zk_rI (Option.some.inj h))
set_option maxRecDepth 100000 in
set_option maxHeartbeats 4000000 in
theorem fLaying_neverLaid_L4_ok {d : Nat} {Z : zkZ} (hd : 3 ≤ d)  : ∀ (n : Nat) (mem : zkM) (x2 : Int32) (x3 : Int32) (z : Int32), fLaying_neverLaid_L4 n mem x2 x3 = some z → zk_J zSX d zY_X4_neverLaid Z 39 [none, some (.ref 46), some (.int z), none, none] [] mem → zk_J zSX d zY_X4_neverLaid Z 4 [none, some (.ref 46), some (.int x2), some (.int x3), none] [] mem := by
  intro n
  induction n with
  | zero => intro mem x2 x3 z h; cases h
  | succ n ih =>
    intro mem x2 x3 z h he
    rw [fLaying_neverLaid_L4] at h
    refine zk_iload_n (i := 3) dX4_neverLaid_4 rfl rfl ?_
    refine zk_aload_n (i := 1) dX4_neverLaid_5 rfl rfl ?_
    refine zk_getI 46 10 1 dX4_neverLaid_6 zf_X4_15 (Nat.le_of_ble_eq_true rfl) rfl rfl ?_
    refine zk_icmp_ge 39 dX4_neverLaid_9 rfl (fun c5 => ?_) (fun c5 => ?_)
    · have h := zk_it _ h c5
      cases h
      exact zk_weak (zk_leN (zk_leS (zk_leS (zk_leN (zk_leN zk_leE))))) he
    · have h := zk_if _ h c5
      refine zk_aload_n (i := 1) dX4_neverLaid_12 rfl rfl ?_
      refine zk_iload_n (i := 2) dX4_neverLaid_13 rfl rfl ?_
      obtain ⟨q1, hq1, h⟩ := zk_ob h
      refine zk_callSi zY_X4_leastNext [_, _] dX4_neverLaid_14 zl_X4_leastNext zc_X4_29 (fLaying_leastNext_ok (d := 2) (Nat.le_refl _) mem _ _ hq1) (Nat.lt_of_lt_of_le (by decide) hd) (Nat.le_of_ble_eq_true rfl) ?_
      refine zk_istore dX4_neverLaid_17 (Nat.le_of_ble_eq_true rfl) rfl ?_
      refine zk_iload dX4_neverLaid_19 rfl ?_
      refine zk_bipush dX4_neverLaid_21 zkb_m9 ?_
      obtain ⟨q2, hq2, h⟩ := zk_lt h
      have Jq2 : zk_J zSX d zY_X4_neverLaid Z 33 [none, some (.ref 46), some (.int q2), some (.int x3), none] [] mem := by
        refine zk_iinc2 dX4_neverLaid_33 rfl zki_1 (Nat.le_of_ble_eq_true rfl) rfl ?_
        refine zk_goto 4 dX4_neverLaid_36 rfl ?_
        exact zk_weak (zk_leN (zk_leS (zk_leS (zk_leS (zk_leN zk_leE))))) (ih mem q2 (x3 + (1 : Int32)) _ h he)
      have h := hq2
      clear hq2
      refine zk_icmp_eq 33 dX4_neverLaid_23 rfl (fun c4 => ?_) (fun c4 => ?_)
      · have h := zk_it _ h c4
        subst h
        exact zk_weak (zk_leN (zk_leS (zk_leS (zk_leS (zk_leN zk_leE))))) Jq2
      · have h := zk_if _ h c4
        refine zk_iload_n (i := 2) dX4_neverLaid_26 rfl rfl ?_
        refine zk_iconst dX4_neverLaid_27 zki_1 ?_
        refine zk_iload dX4_neverLaid_28 rfl ?_
        refine zk_ishl dX4_neverLaid_30 ?_
        refine zk_ior dX4_neverLaid_31 ?_
        obtain ⟨v3, ev3, h⟩ := zk_lt h
        refine zk_istore_n' (i := 2) dX4_neverLaid_32 rfl ev3 (Nat.le_of_ble_eq_true rfl) rfl ?_
        subst h
        exact zk_weak (zk_leN (zk_leS (zk_leS (zk_leS (zk_leN zk_leE))))) Jq2
set_option maxRecDepth 100000 in
set_option maxHeartbeats 4000000 in
theorem fLaying_neverLaid_ok {d : Nat} (hd : 3 ≤ d) (mem : zkM) (z : Int32) (h : fLaying_neverLaid mem = some z) : zk_X zSX d zY_X4_neverLaid [.ref 44, .ref 46] mem (some (.int z), mem) := by
  unfold fLaying_neverLaid at h
  refine zk_meet (n := 3) (lv := [some (.ref 44), some (.ref 46), none, none, none]) zpn_X4 rfl (Nat.le_of_ble_eq_true rfl) ?_
  refine zk_iconst dX4_neverLaid_0 zki_0 ?_
  refine zk_istore_n (i := 2) dX4_neverLaid_1 rfl (Nat.le_of_ble_eq_true rfl) rfl ?_
  refine zk_iconst dX4_neverLaid_2 zki_0 ?_
  refine zk_istore_n (i := 3) dX4_neverLaid_3 rfl (Nat.le_of_ble_eq_true rfl) rfl ?_
  obtain ⟨q1, hq1, h⟩ := zk_ob h
  refine zk_weak (zk_leN (zk_leS (zk_leS (zk_leS (zk_leN zk_leE))))) (fLaying_neverLaid_L4_ok hd 500 mem (0 : Int32) (0 : Int32) _ hq1 ?_)
  refine zk_iconst dX4_neverLaid_39 zki_1 ?_
  refine zk_aload_n (i := 1) dX4_neverLaid_40 rfl rfl ?_
  refine zk_getI 46 10 1 dX4_neverLaid_41 zf_X4_15 (Nat.le_of_ble_eq_true rfl) rfl rfl ?_
  refine zk_ishl dX4_neverLaid_44 ?_
  refine zk_iconst dX4_neverLaid_45 zki_1 ?_
  refine zk_isub dX4_neverLaid_46 ?_
  refine zk_iload_n (i := 2) dX4_neverLaid_47 rfl rfl ?_
  refine zk_iconst dX4_neverLaid_48 zki_m1 ?_
  refine zk_ixor dX4_neverLaid_49 ?_
  refine zk_iand dX4_neverLaid_50 ?_
  exact zk_ireturn dX4_neverLaid_51 rfl (zk_rI (Option.some.inj h))
set_option maxRecDepth 100000 in
set_option maxHeartbeats 4000000 in
theorem fLaying_ofFirst_L9_ok {d : Nat} {r : Option Value × zkM} (hd : 3 ≤ d)  : ∀ (n : Nat) (mem : zkM) (x2 : Int32) (x3 : Int32) (x4 : Int32) (x5 : Int32) (z : (Int32) ⊕ (Int32)), fLaying_ofFirst_L9 n mem x2 x3 x4 x5 = some z → (∀ y, z = .inl y → (some (.int y), mem) = r) → (∀ z', z = .inr z' → zk_J zSX d zY_X4_ofFirst (zk_R zSX r) 54 [none, none, none, none, some (.int z'), none] [] mem) → zk_J zSX d zY_X4_ofFirst (zk_R zSX r) 9 [none, some (.ref 46), some (.int x2), some (.int x3), some (.int x4), some (.int x5)] [] mem := by
  intro n
  induction n with
  | zero => intro mem x2 x3 x4 x5 z h; cases h
  | succ n ih =>
    intro mem x2 x3 x4 x5 z h hr he
    rw [fLaying_ofFirst_L9] at h
    refine zk_iload dX4_ofFirst_9 rfl ?_
    refine zk_iload_n (i := 2) dX4_ofFirst_11 rfl rfl ?_
    refine zk_icmp_gt 54 dX4_ofFirst_12 rfl (fun c5 => ?_) (fun c5 => ?_)
    · have h := zk_it _ h c5
      exact zk_weak (zk_leN (zk_leN (zk_leN (zk_leN (zk_leS (zk_leN zk_leE)))))) (he _ (Option.some.inj h).symm)
    · have h := zk_if _ h c5
      refine zk_iload dX4_ofFirst_15 rfl ?_
      refine zk_aload_n (i := 1) dX4_ofFirst_17 rfl rfl ?_
      refine zk_getI 46 10 1 dX4_ofFirst_18 zf_X4_15 (Nat.le_of_ble_eq_true rfl) rfl rfl ?_
      refine zk_icmp_ge 54 dX4_ofFirst_21 rfl (fun c4 => ?_) (fun c4 => ?_)
      · have h := zk_it _ h c4
        exact zk_weak (zk_leN (zk_leN (zk_leN (zk_leN (zk_leS (zk_leN zk_leE)))))) (he _ (Option.some.inj h).symm)
      · have h := zk_if _ h c4
        refine zk_aload_n (i := 1) dX4_ofFirst_24 rfl rfl ?_
        refine zk_iload_n (i := 3) dX4_ofFirst_25 rfl rfl ?_
        obtain ⟨q1, hq1, h⟩ := zk_ob h
        refine zk_callSi zY_X4_leastNext [_, _] dX4_ofFirst_26 zl_X4_leastNext zc_X4_29 (fLaying_leastNext_ok (d := 2) (Nat.le_refl _) mem _ _ hq1) (Nat.lt_of_lt_of_le (by decide) hd) (Nat.le_of_ble_eq_true rfl) ?_
        refine zk_istore dX4_ofFirst_29 (Nat.le_of_ble_eq_true rfl) rfl ?_
        refine zk_iload dX4_ofFirst_31 rfl ?_
        refine zk_bipush dX4_ofFirst_33 zkb_m9 ?_
        refine zk_icmp_ne 41 dX4_ofFirst_35 rfl (fun c3 => ?_) (fun c3 => ?_)
        · have h := zk_if _ h c3
          refine zk_iload_n (i := 3) dX4_ofFirst_41 rfl rfl ?_
          refine zk_iconst dX4_ofFirst_42 zki_1 ?_
          refine zk_iload dX4_ofFirst_43 rfl ?_
          refine zk_ishl dX4_ofFirst_45 ?_
          refine zk_ior dX4_ofFirst_46 ?_
          obtain ⟨v2, ev2, h⟩ := zk_lt h
          refine zk_istore_n' (i := 3) dX4_ofFirst_47 rfl ev2 (Nat.le_of_ble_eq_true rfl) rfl ?_
          refine zk_iinc2 dX4_ofFirst_48 rfl zki_1 (Nat.le_of_ble_eq_true rfl) rfl ?_
          refine zk_goto 9 dX4_ofFirst_51 rfl ?_
          exact zk_weak (zk_leN (zk_leS (zk_leS (zk_leS (zk_leS (zk_leS zk_leE)))))) (ih mem x2 v2 q1 (x5 + (1 : Int32)) _ h hr he)
        · have h := zk_it _ h c3
          refine zk_bipush dX4_ofFirst_38 zkb_m9 ?_
          exact zk_ireturn dX4_ofFirst_40 rfl ((zk_rI rfl).trans (hr _ (Option.some.inj h).symm))
