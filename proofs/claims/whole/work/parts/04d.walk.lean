set_option maxRecDepth 100000 in
set_option maxHeartbeats 4000000 in
theorem fTp_richest_ok {d : Nat} (hd : 17 ≤ d) (mem : zkM) (a1 : Int32) (z : Int32 × zkM) (h : fTp_richest mem a1 = some z) : zk_X zSX d zY_X11_richest [.ref 0, .int a1] mem (some (.int z.1), z.2) := by
  unfold fTp_richest at h
  refine zk_meet (n := 0) (lv := [some (.ref 0), some (.int a1)]) zpn_X11 rfl (Nat.le_of_ble_eq_true rfl) ?_
  refine zk_iload_n (i := 1) dX11_richest_0 rfl rfl ?_
  refine zk_bipush dX11_richest_1 zkb_m9 ?_
  refine zk_icmp_eq 16 dX11_richest_3 rfl (fun c10 => ?_) (fun c10 => ?_)
  · have h := zk_it _ h c10
    refine zk_aload_n (i := 0) dX11_richest_16 rfl rfl ?_
    refine zk_getR 0 11 6 dX11_richest_17 zf_X11_54 (Nat.le_of_ble_eq_true rfl) rfl rfl ?_
    refine zk_aload_n (i := 0) dX11_richest_20 rfl rfl ?_
    refine zk_getR 0 11 10 dX11_richest_21 zf_X11_82 (Nat.le_of_ble_eq_true rfl) rfl rfl ?_
    refine zk_aload_n (i := 0) dX11_richest_24 rfl rfl ?_
    refine zk_getR 0 11 1 dX11_richest_25 zf_X11_19 (Nat.le_of_ble_eq_true rfl) rfl rfl ?_
    obtain ⟨q1, hq1, h⟩ := zk_ob h
    refine zk_callVv zY_X6_seekRichest 30 6 [_, _] dX11_richest_28 zl_X6_seekRichest zc_X11_236 zk_ok6 (Nat.le_of_ble_eq_true rfl) rfl (fPlanner_seekRichest_ok (d := 16) (Nat.le_refl _) mem  _ hq1) (Nat.lt_of_lt_of_le (by decide) hd) (Nat.le_of_ble_eq_true rfl) ?_
    refine zk_iload_n (i := 1) dX11_richest_31 rfl rfl ?_
    refine zk_bipush dX11_richest_32 zkb_m9 ?_
    refine zk_icmp_ne 51 dX11_richest_34 rfl (fun c4 => ?_) (fun c4 => ?_)
    · have h := zk_if _ h c4
      refine zk_aload_n (i := 0) dX11_richest_51 rfl rfl ?_
      refine zk_getR 0 11 6 dX11_richest_52 zf_X11_54 (Nat.le_of_ble_eq_true rfl) rfl rfl ?_
      refine zk_iload_n (i := 1) dX11_richest_55 rfl rfl ?_
      obtain ⟨q2, hq2, h⟩ := zk_ob h
      refine zk_callVi zY_X6_placeOf 30 6 [_] dX11_richest_56 zl_X6_placeOf zc_X11_233 zk_ok6 (Nat.le_of_ble_eq_true rfl) rfl (fPlanner_placeOf_ok (d := 0) (Nat.le_refl _) q1 _ _ hq2) (Nat.lt_of_lt_of_le (by decide) hd) (Nat.le_of_ble_eq_true rfl) ?_
      exact zk_ireturn dX11_richest_59 rfl (zk_rIw (Option.some.inj h))
    · have h := zk_it _ h c4
      refine zk_aload_n (i := 0) dX11_richest_37 rfl rfl ?_
      refine zk_getR 0 11 6 dX11_richest_38 zf_X11_54 (Nat.le_of_ble_eq_true rfl) rfl rfl ?_
      refine zk_aload_n (i := 0) dX11_richest_41 rfl rfl ?_
      refine zk_getR 0 11 10 dX11_richest_42 zf_X11_82 (Nat.le_of_ble_eq_true rfl) rfl rfl ?_
      obtain ⟨q3, hq3, h⟩ := zk_ob h
      refine zk_callVi zY_X6_howMuch 30 6 [_] dX11_richest_45 zl_X6_howMuch zc_X11_239 zk_ok6 (Nat.le_of_ble_eq_true rfl) rfl (fPlanner_howMuch_ok (d := 0) (Nat.le_refl _) q1  _ hq3) (Nat.lt_of_lt_of_le (by decide) hd) (Nat.le_of_ble_eq_true rfl) ?_
      refine zk_goto 59 dX11_richest_48 rfl ?_
      exact zk_ireturn dX11_richest_59 rfl (zk_rIw (Option.some.inj h))
  · have h := zk_if _ h c10
    refine zk_aload_n (i := 0) dX11_richest_6 rfl rfl ?_
    refine zk_iload_n (i := 1) dX11_richest_7 rfl rfl ?_
    refine zk_callVi zY_X11_isChild 0 11 [_] dX11_richest_8 zl_X11_isChild zc_X11_166 zk_ok11 (Nat.le_of_ble_eq_true rfl) rfl (fTp_isChild_ok (d := 1) (Nat.le_refl _) mem _ _ rfl) (Nat.lt_of_lt_of_le (by decide) hd) (Nat.le_of_ble_eq_true rfl) ?_
    refine zk_if_ne 16 dX11_richest_11 rfl (fun c9 => ?_) (fun c9 => ?_)
    · have h := zk_if _ h c9
      refine zk_aload_n (i := 0) dX11_richest_16 rfl rfl ?_
      refine zk_getR 0 11 6 dX11_richest_17 zf_X11_54 (Nat.le_of_ble_eq_true rfl) rfl rfl ?_
      refine zk_aload_n (i := 0) dX11_richest_20 rfl rfl ?_
      refine zk_getR 0 11 10 dX11_richest_21 zf_X11_82 (Nat.le_of_ble_eq_true rfl) rfl rfl ?_
      refine zk_aload_n (i := 0) dX11_richest_24 rfl rfl ?_
      refine zk_getR 0 11 1 dX11_richest_25 zf_X11_19 (Nat.le_of_ble_eq_true rfl) rfl rfl ?_
      obtain ⟨q5, hq5, h⟩ := zk_ob h
      refine zk_callVv zY_X6_seekRichest 30 6 [_, _] dX11_richest_28 zl_X6_seekRichest zc_X11_236 zk_ok6 (Nat.le_of_ble_eq_true rfl) rfl (fPlanner_seekRichest_ok (d := 16) (Nat.le_refl _) mem  _ hq5) (Nat.lt_of_lt_of_le (by decide) hd) (Nat.le_of_ble_eq_true rfl) ?_
      refine zk_iload_n (i := 1) dX11_richest_31 rfl rfl ?_
      refine zk_bipush dX11_richest_32 zkb_m9 ?_
      refine zk_icmp_ne 51 dX11_richest_34 rfl (fun c8 => ?_) (fun c8 => ?_)
      · have h := zk_if _ h c8
        refine zk_aload_n (i := 0) dX11_richest_51 rfl rfl ?_
        refine zk_getR 0 11 6 dX11_richest_52 zf_X11_54 (Nat.le_of_ble_eq_true rfl) rfl rfl ?_
        refine zk_iload_n (i := 1) dX11_richest_55 rfl rfl ?_
        obtain ⟨q6, hq6, h⟩ := zk_ob h
        refine zk_callVi zY_X6_placeOf 30 6 [_] dX11_richest_56 zl_X6_placeOf zc_X11_233 zk_ok6 (Nat.le_of_ble_eq_true rfl) rfl (fPlanner_placeOf_ok (d := 0) (Nat.le_refl _) q5 _ _ hq6) (Nat.lt_of_lt_of_le (by decide) hd) (Nat.le_of_ble_eq_true rfl) ?_
        exact zk_ireturn dX11_richest_59 rfl (zk_rIw (Option.some.inj h))
      · have h := zk_it _ h c8
        refine zk_aload_n (i := 0) dX11_richest_37 rfl rfl ?_
        refine zk_getR 0 11 6 dX11_richest_38 zf_X11_54 (Nat.le_of_ble_eq_true rfl) rfl rfl ?_
        refine zk_aload_n (i := 0) dX11_richest_41 rfl rfl ?_
        refine zk_getR 0 11 10 dX11_richest_42 zf_X11_82 (Nat.le_of_ble_eq_true rfl) rfl rfl ?_
        obtain ⟨q7, hq7, h⟩ := zk_ob h
        refine zk_callVi zY_X6_howMuch 30 6 [_] dX11_richest_45 zl_X6_howMuch zc_X11_239 zk_ok6 (Nat.le_of_ble_eq_true rfl) rfl (fPlanner_howMuch_ok (d := 0) (Nat.le_refl _) q5  _ hq7) (Nat.lt_of_lt_of_le (by decide) hd) (Nat.le_of_ble_eq_true rfl) ?_
        refine zk_goto 59 dX11_richest_48 rfl ?_
        exact zk_ireturn dX11_richest_59 rfl (zk_rIw (Option.some.inj h))
    · have h := zk_it _ h c9
      refine zk_iconst dX11_richest_14 zki_m1 ?_
      exact zk_ireturn dX11_richest_15 rfl (zk_rIw (Option.some.inj h))
set_option maxRecDepth 100000 in
set_option maxHeartbeats 4000000 in
theorem fScene_copyFromL_5_ok {d : Nat} (hd : 0 ≤ d) (mem : zkM) (z : zkM) (h : fScene_copyFromL_5 mem = z) : zk_X zSX d zY_X8_copyFrom [.ref 39, .ref 5] mem (none, z) := by
  unfold fScene_copyFromL_5 at h
  refine zk_meet (n := 0) (lv := [some (.ref 39), some (.ref 5)]) zpn_X8 rfl (Nat.le_of_ble_eq_true rfl) ?_
  refine zk_aload_n (i := 1) dX8_copyFrom_0 rfl rfl ?_
  refine zk_alen 5 42 dX8_copyFrom_1 (Nat.le_of_ble_eq_true rfl) rfl (v := 42) (by decide) ?_
  refine zk_bipush dX8_copyFrom_2 zkb_42 ?_
  refine zk_icmp_lt 19 dX8_copyFrom_4 rfl (fun c => absurd c (by decide)) (fun _ => ?_)
  refine zk_aload_n (i := 1) dX8_copyFrom_7 rfl rfl ?_
  refine zk_iconst dX8_copyFrom_8 zki_0 ?_
  refine zk_aload_n (i := 0) dX8_copyFrom_9 rfl rfl ?_
  refine zk_getR 39 8 0 dX8_copyFrom_10 zf_X8_11 (Nat.le_of_ble_eq_true rfl) rfl rfl ?_
  refine zk_iconst dX8_copyFrom_13 zki_0 ?_
  refine zk_bipush dX8_copyFrom_14 zkb_42 ?_
  obtain ⟨m1, em1, h⟩ := zk_lt h
  refine zk_copyI 5 40 42 42 42 dX8_copyFrom_16 zc_X8_24 zac (Nat.le_of_ble_eq_true rfl) (Nat.le_of_ble_eq_true rfl) rfl rfl (by decide) (by decide) (by decide) (by decide) (Nat.le_of_ble_eq_true rfl) em1 ?_
  exact zk_vreturn dX8_copyFrom_19 rfl (zk_rVw h)
set_option maxRecDepth 100000 in
set_option maxHeartbeats 4000000 in
theorem fScene_isOutL_ok {d : Nat} (hd : 0 ≤ d) (mem : zkM) (a1 : Int32) (z : Bool) (h : fScene_isOutL mem a1 = some z) : zk_X zSX d zY_X8_isOut [.ref 39, .int a1] mem (some (.int (zk_b z)), mem) := by
  unfold fScene_isOutL at h
  refine zk_meet (n := 0) (lv := [some (.ref 39), some (.int a1)]) zpn_X8 rfl (Nat.le_of_ble_eq_true rfl) ?_
  refine zk_aload_n (i := 0) dX8_isOut_0 rfl rfl ?_
  refine zk_getR 39 8 0 dX8_isOut_1 zf_X8_11 (Nat.le_of_ble_eq_true rfl) rfl rfl ?_
  refine zk_bipush dX8_isOut_4 zkb_29 ?_
  refine zk_iload_n (i := 1) dX8_isOut_6 rfl rfl ?_
  refine zk_iadd dX8_isOut_7 ?_
  obtain ⟨b1, h⟩ := zk_gd h
  refine zk_iaload 40 42 dX8_isOut_8 (Nat.le_of_ble_eq_true rfl) rfl (zk_inb_in b1) ?_
  refine zk_if_eq 16 dX8_isOut_9 rfl (fun c2 => ?_) (fun c2 => ?_)
  · have h := zk_it _ h c2
    refine zk_iconst dX8_isOut_16 zki_0 ?_
    exact zk_zreturn dX8_isOut_17 rfl rfl (zk_rZ (Option.some.inj h))
  · have h := zk_if _ h c2
    refine zk_iconst dX8_isOut_12 zki_1 ?_
    refine zk_goto 17 dX8_isOut_13 rfl ?_
    exact zk_zreturn dX8_isOut_17 rfl rfl (zk_rZ (Option.some.inj h))
set_option maxRecDepth 100000 in
set_option maxHeartbeats 4000000 in
theorem fScene_kindOfL_ok {d : Nat} (hd : 0 ≤ d) (mem : zkM) (a1 : Int32) (z : Int32) (h : fScene_kindOfL mem a1 = some z) : zk_X zSX d zY_X8_kindOf [.ref 39, .int a1] mem (some (.int z), mem) := by
  unfold fScene_kindOfL at h
  refine zk_meet (n := 0) (lv := [some (.ref 39), some (.int a1)]) zpn_X8 rfl (Nat.le_of_ble_eq_true rfl) ?_
  refine zk_aload_n (i := 0) dX8_kindOf_0 rfl rfl ?_
  refine zk_getR 39 8 0 dX8_kindOf_1 zf_X8_11 (Nat.le_of_ble_eq_true rfl) rfl rfl ?_
  refine zk_iconst dX8_kindOf_4 zki_5 ?_
  refine zk_iload_n (i := 1) dX8_kindOf_5 rfl rfl ?_
  refine zk_iadd dX8_kindOf_6 ?_
  obtain ⟨b1, h⟩ := zk_gd h
  refine zk_iaload 40 42 dX8_kindOf_7 (Nat.le_of_ble_eq_true rfl) rfl (zk_inb_in b1) ?_
  exact zk_ireturn dX8_kindOf_8 rfl (zk_rI (Option.some.inj h))
set_option maxRecDepth 100000 in
set_option maxHeartbeats 4000000 in
theorem fScene_wearOfL_ok {d : Nat} (hd : 0 ≤ d) (mem : zkM) (a1 : Int32) (z : Int32) (h : fScene_wearOfL mem a1 = some z) : zk_X zSX d zY_X8_wearOf [.ref 39, .int a1] mem (some (.int z), mem) := by
  unfold fScene_wearOfL at h
  refine zk_meet (n := 0) (lv := [some (.ref 39), some (.int a1)]) zpn_X8 rfl (Nat.le_of_ble_eq_true rfl) ?_
  refine zk_aload_n (i := 0) dX8_wearOf_0 rfl rfl ?_
  refine zk_getR 39 8 0 dX8_wearOf_1 zf_X8_11 (Nat.le_of_ble_eq_true rfl) rfl rfl ?_
  refine zk_bipush dX8_wearOf_4 zkb_17 ?_
  refine zk_iload_n (i := 1) dX8_wearOf_6 rfl rfl ?_
  refine zk_iadd dX8_wearOf_7 ?_
  obtain ⟨b1, h⟩ := zk_gd h
  refine zk_iaload 40 42 dX8_wearOf_8 (Nat.le_of_ble_eq_true rfl) rfl (zk_inb_in b1) ?_
  exact zk_ireturn dX8_wearOf_9 rfl (zk_rI (Option.some.inj h))
set_option maxRecDepth 100000 in
set_option maxHeartbeats 4000000 in
theorem fScene_shakeL_ok {d : Nat} (hd : 1 ≤ d) (mem : zkM) (a1 : Int32) (a2 : Int32) (a3 : Int32) (z : zkM) (h : fScene_shakeL mem a1 a2 a3 = some z) : zk_X zSX d zY_X8_shake [.ref 39, .int a1, .int a2, .int a3] mem (none, z) := by
  unfold fScene_shakeL at h
  refine zk_meet (n := 2) (lv := [some (.ref 39), some (.int a1), some (.int a2), some (.int a3), none, none]) zpn_X8 rfl (Nat.le_of_ble_eq_true rfl) ?_
  refine zk_aload_n (i := 0) dX8_shake_0 rfl rfl ?_
  refine zk_iload_n (i := 1) dX8_shake_1 rfl rfl ?_
  obtain ⟨q1, hq1, h⟩ := zk_ob h
  refine zk_callVi zY_X8_kindOf 39 8 [_] dX8_shake_2 zl_X8_kindOf zc_X8_46 zk_ok8 (Nat.le_of_ble_eq_true rfl) rfl (fScene_kindOfL_ok (d := 0) (Nat.le_refl _) mem _ _ hq1) (Nat.lt_of_lt_of_le (by decide) hd) (Nat.le_of_ble_eq_true rfl) ?_
  refine zk_istore dX8_shake_5 (Nat.le_of_ble_eq_true rfl) rfl ?_
  refine zk_aload_n (i := 0) dX8_shake_7 rfl rfl ?_
  refine zk_getR 39 8 0 dX8_shake_8 zf_X8_11 (Nat.le_of_ble_eq_true rfl) rfl rfl ?_
  refine zk_bipush dX8_shake_11 zkb_17 ?_
  refine zk_iload_n (i := 1) dX8_shake_13 rfl rfl ?_
  refine zk_iadd dX8_shake_14 ?_
  refine zk_dup2 dX8_shake_15 rfl rfl ?_
  obtain ⟨b2, h⟩ := zk_gd h
  refine zk_iaload 40 42 dX8_shake_16 (Nat.le_of_ble_eq_true rfl) rfl (zk_inb_in b2) ?_
  refine zk_iload dX8_shake_17 rfl ?_
  refine zk_iload_n (i := 2) dX8_shake_19 rfl rfl ?_
  refine zk_iload_n (i := 3) dX8_shake_20 rfl rfl ?_
  refine zk_callNi zY_X11_growth [_, _, _] dX8_shake_21 zl_X11_growth zc_X8_49 (fTp_growth_ok (d := 0) (Nat.le_refl _) mem _ _ _ _ rfl) (Nat.lt_of_lt_of_le (by decide) hd) (Nat.le_of_ble_eq_true rfl) ?_
  refine zk_iadd dX8_shake_24 ?_
  obtain ⟨b3, h⟩ := zk_gd h
  obtain ⟨m4, em4, h⟩ := zk_lt h
  refine zk_iastore' 40 42 dX8_shake_25 (Nat.le_of_ble_eq_true rfl) rfl (zk_inb_in b3) em4 ?_
  refine zk_iload dX8_shake_26 rfl ?_
  obtain ⟨q5, hq5, h⟩ := zk_lt h
  have Jq5 : zk_J zSX d zY_X8_shake (zk_R zSX (none, z)) 42 [some (.ref 39), some (.int a1), none, none, some (.int q1), none] [.int (zk_b q5)] m4 := by
    refine zk_istore dX8_shake_42 (Nat.le_of_ble_eq_true rfl) rfl ?_
    refine zk_iload dX8_shake_44 rfl ?_
    refine zk_if_ne 62 dX8_shake_46 rfl (fun c14 => ?_) (fun c14 => ?_)
    · have h := zk_if _ h c14
      refine zk_aload_n (i := 0) dX8_shake_62 rfl rfl ?_
      refine zk_getR 39 8 0 dX8_shake_63 zf_X8_11 (Nat.le_of_ble_eq_true rfl) rfl rfl ?_
      refine zk_bipush dX8_shake_66 zkb_29 ?_
      refine zk_iload_n (i := 1) dX8_shake_68 rfl rfl ?_
      refine zk_iadd dX8_shake_69 ?_
      refine zk_iconst dX8_shake_70 zki_1 ?_
      obtain ⟨b8, h⟩ := zk_gd h
      obtain ⟨m9, em9, h⟩ := zk_lt h
      refine zk_iastore' 40 42 dX8_shake_71 (Nat.le_of_ble_eq_true rfl) rfl (zk_inb_in b8) em9 ?_
      exact zk_vreturn dX8_shake_72 rfl (zk_rVw (Option.some.inj h))
    · have h := zk_it _ h c14
      refine zk_aload_n (i := 0) dX8_shake_49 rfl rfl ?_
      refine zk_iload_n (i := 1) dX8_shake_50 rfl rfl ?_
      obtain ⟨q10, hq10, h⟩ := zk_ob h
      refine zk_callVi zY_X8_wearOf 39 8 [_] dX8_shake_51 zl_X8_wearOf zc_X8_53 zk_ok8 (Nat.le_of_ble_eq_true rfl) rfl (fScene_wearOfL_ok (d := 0) (Nat.le_refl _) m4 _ _ hq10) (Nat.lt_of_lt_of_le (by decide) hd) (Nat.le_of_ble_eq_true rfl) ?_
      refine zk_iload dX8_shake_54 rfl ?_
      refine zk_callNi zY_X11_givesAt [_] dX8_shake_56 zl_X11_givesAt zc_X8_56 (fTp_givesAt_ok (d := 0) (Nat.le_refl _) m4 _ _ rfl) (Nat.lt_of_lt_of_le (by decide) hd) (Nat.le_of_ble_eq_true rfl) ?_
      refine zk_icmp_lt 72 dX8_shake_59 rfl (fun c13 => ?_) (fun c13 => ?_)
      · have h := zk_it _ h c13
        exact zk_vreturn dX8_shake_72 rfl (zk_rVw (Option.some.inj h))
      · have h := zk_if _ h c13
        refine zk_aload_n (i := 0) dX8_shake_62 rfl rfl ?_
        refine zk_getR 39 8 0 dX8_shake_63 zf_X8_11 (Nat.le_of_ble_eq_true rfl) rfl rfl ?_
        refine zk_bipush dX8_shake_66 zkb_29 ?_
        refine zk_iload_n (i := 1) dX8_shake_68 rfl rfl ?_
        refine zk_iadd dX8_shake_69 ?_
        refine zk_iconst dX8_shake_70 zki_1 ?_
        obtain ⟨b11, h⟩ := zk_gd h
        obtain ⟨m12, em12, h⟩ := zk_lt h
        refine zk_iastore' 40 42 dX8_shake_71 (Nat.le_of_ble_eq_true rfl) rfl (zk_inb_in b11) em12 ?_
        exact zk_vreturn dX8_shake_72 rfl (zk_rVw (Option.some.inj h))
  have h := hq5
  clear hq5
  refine zk_if_ne 41 dX8_shake_28 rfl (fun c7 => ?_) (fun c7 => ?_)
  · have h := zk_if _ h c7
    refine zk_iconst dX8_shake_41 zki_0 ?_
    subst h
    exact zk_weak (zk_leS (zk_leS (zk_leN (zk_leN (zk_leS (zk_leN zk_leE)))))) Jq5
  · have h := zk_it _ h c7
    refine zk_iload_n (i := 3) dX8_shake_31 rfl rfl ?_
    refine zk_bipush dX8_shake_32 zkb_7 ?_
    refine zk_icmp_lt 41 dX8_shake_34 rfl (fun c6 => ?_) (fun c6 => ?_)
    · have h := zk_it _ h c6
      refine zk_iconst dX8_shake_41 zki_0 ?_
      subst h
      exact zk_weak (zk_leS (zk_leS (zk_leN (zk_leN (zk_leS (zk_leN zk_leE)))))) Jq5
    · have h := zk_if _ h c6
      refine zk_iconst dX8_shake_37 zki_1 ?_
      refine zk_goto 42 dX8_shake_38 rfl ?_
      subst h
      exact zk_weak (zk_leS (zk_leS (zk_leN (zk_leN (zk_leS (zk_leN zk_leE)))))) Jq5
set_option maxRecDepth 100000 in
set_option maxHeartbeats 4000000 in
theorem fScene_blowL_L2_ok {d : Nat} {Z : zkZ} (hd : 2 ≤ d)  : ∀ (n : Nat) (mem : zkM) (x2 : Int32) (x3 : Int32) (z : zkM), fScene_blowL_L2 n mem x2 x3 = some z → zk_J zSX d zY_X8_blow Z 37 [some (.ref 39), none, none, none] [] z → zk_J zSX d zY_X8_blow Z 2 [some (.ref 39), some (.ref 46), some (.int x2), some (.int x3)] [] mem := by
  intro n
  induction n with
  | zero => intro mem x2 x3 z h; cases h
  | succ n ih =>
    intro mem x2 x3 z h he
    rw [fScene_blowL_L2] at h
    refine zk_iload_n (i := 3) dX8_blow_2 rfl rfl ?_
    refine zk_aload_n (i := 1) dX8_blow_3 rfl rfl ?_
    refine zk_callVi zY_X10_ends 46 10 [] dX8_blow_4 zl_X10_ends zc_X8_30 zk_ok10 (Nat.le_of_ble_eq_true rfl) rfl (fTree_ends_ok (d := 0) (Nat.le_refl _) mem  _ rfl) (Nat.lt_of_lt_of_le (by decide) hd) (Nat.le_of_ble_eq_true rfl) ?_
    refine zk_icmp_ge 37 dX8_blow_7 rfl (fun c6 => ?_) (fun c6 => ?_)
    · have h := zk_it _ h c6
      cases h
      exact zk_weak (zk_leS (zk_leN (zk_leN (zk_leN zk_leE)))) he
    · have h := zk_if _ h c6
      refine zk_aload_n (i := 0) dX8_blow_10 rfl rfl ?_
      refine zk_iload_n (i := 3) dX8_blow_11 rfl rfl ?_
      obtain ⟨q1, hq1, h⟩ := zk_ob h
      refine zk_callVi zY_X8_isOut 39 8 [_] dX8_blow_12 zl_X8_isOut zc_X8_34 zk_ok8 (Nat.le_of_ble_eq_true rfl) rfl (fScene_isOutL_ok (d := 0) (Nat.le_refl _) mem _ _ hq1) (Nat.lt_of_lt_of_le (by decide) hd) (Nat.le_of_ble_eq_true rfl) ?_
      obtain ⟨q2, hq2, h⟩ := zk_ob h
      have Jq2 : zk_J zSX d zY_X8_blow Z 31 [some (.ref 39), some (.ref 46), some (.int x2), some (.int x3)] [] q2 := by
        refine zk_iinc2 dX8_blow_31 rfl zki_1 (Nat.le_of_ble_eq_true rfl) rfl ?_
        refine zk_goto 2 dX8_blow_34 rfl ?_
        exact zk_weak (zk_leS (zk_leS (zk_leS (zk_leS zk_leE)))) (ih q2 x2 (x3 + (1 : Int32)) _ h he)
      have h := hq2
      clear hq2
      refine zk_if_ne 31 dX8_blow_15 rfl (fun c5 => ?_) (fun c5 => ?_)
      · have h := zk_if _ h c5
        cases h
        exact zk_weak (zk_leS (zk_leS (zk_leS (zk_leS zk_leE)))) Jq2
      · have h := zk_it _ h c5
        refine zk_aload_n (i := 0) dX8_blow_18 rfl rfl ?_
        refine zk_iload_n (i := 3) dX8_blow_19 rfl rfl ?_
        refine zk_aload_n (i := 1) dX8_blow_20 rfl rfl ?_
        refine zk_iload_n (i := 3) dX8_blow_21 rfl rfl ?_
        refine zk_iconst dX8_blow_22 zki_2 ?_
        refine zk_idiv dX8_blow_23 (by decide) ?_
        obtain ⟨q3, hq3, h⟩ := zk_ob h
        refine zk_callVi zY_X10_swayAcross 46 10 [_] dX8_blow_24 zl_X10_swayAcross zc_X8_38 zk_ok10 (Nat.le_of_ble_eq_true rfl) rfl (fTree_swayAcross_ok (d := 0) (Nat.le_refl _) mem _ _ hq3) (Nat.lt_of_lt_of_le (by decide) hd) (Nat.le_of_ble_eq_true rfl) ?_
        refine zk_iload_n (i := 2) dX8_blow_27 rfl rfl ?_
        obtain ⟨q4, hq4, h⟩ := zk_ob h
        refine zk_callVv zY_X8_shake 39 8 [_, _, _] dX8_blow_28 zl_X8_shake zc_X8_42 zk_ok8 (Nat.le_of_ble_eq_true rfl) rfl (fScene_shakeL_ok (d := 1) (Nat.le_refl _) mem _ _ _ _ hq4) (Nat.lt_of_lt_of_le (by decide) hd) (Nat.le_of_ble_eq_true rfl) ?_
        cases h
        exact zk_weak (zk_leS (zk_leS (zk_leS (zk_leS zk_leE)))) Jq2
set_option maxRecDepth 100000 in
set_option maxHeartbeats 4000000 in
theorem fScene_blowL_ok {d : Nat} (hd : 2 ≤ d) (mem : zkM) (a2 : Int32) (z : zkM) (h : fScene_blowL mem a2 = some z) : zk_X zSX d zY_X8_blow [.ref 39, .ref 46, .int a2] mem (none, z) := by
  unfold fScene_blowL at h
  refine zk_meet (n := 1) (lv := [some (.ref 39), some (.ref 46), some (.int a2), none]) zpn_X8 rfl (Nat.le_of_ble_eq_true rfl) ?_
  refine zk_iconst dX8_blow_0 zki_0 ?_
  refine zk_istore_n (i := 3) dX8_blow_1 rfl (Nat.le_of_ble_eq_true rfl) rfl ?_
  obtain ⟨q1, hq1, h⟩ := zk_ob h
  refine zk_weak (zk_leS (zk_leS (zk_leS (zk_leS zk_leE)))) (fScene_blowL_L2_ok hd 500 mem a2 (0 : Int32) _ hq1 ?_)
  refine zk_aload_n (i := 0) dX8_blow_37 rfl rfl ?_
  refine zk_getR 39 8 0 dX8_blow_38 zf_X8_11 (Nat.le_of_ble_eq_true rfl) rfl rfl ?_
  refine zk_bipush dX8_blow_41 zkb_41 ?_
  refine zk_dup2 dX8_blow_43 rfl rfl ?_
  refine zk_iaload 40 42 dX8_blow_44 (Nat.le_of_ble_eq_true rfl) rfl (zk_inb_in (by decide)) ?_
  refine zk_iconst dX8_blow_45 zki_1 ?_
  refine zk_iadd dX8_blow_46 ?_
  obtain ⟨m2, em2, h⟩ := zk_lt h
  refine zk_iastore' 40 42 dX8_blow_47 (Nat.le_of_ble_eq_true rfl) rfl (zk_inb_in (by decide)) em2 ?_
  exact zk_vreturn dX8_blow_48 rfl (zk_rVw (Option.some.inj h))
set_option maxRecDepth 100000 in
set_option maxHeartbeats 4000000 in
theorem fScene_outBitsL_L4_ok {d : Nat} {Z : zkZ} (hd : 1 ≤ d)  : ∀ (n : Nat) (mem : zkM) (x2 : Int32) (x3 : Int32) (z : Int32), fScene_outBitsL_L4 n mem x2 x3 = some z → zk_J zSX d zY_X8_outBits Z 32 [none, none, some (.int z), none] [] mem → zk_J zSX d zY_X8_outBits Z 4 [some (.ref 39), some (.ref 46), some (.int x2), some (.int x3)] [] mem := by
  intro n
  induction n with
  | zero => intro mem x2 x3 z h; cases h
  | succ n ih =>
    intro mem x2 x3 z h he
    rw [fScene_outBitsL_L4] at h
    refine zk_iload_n (i := 3) dX8_outBits_4 rfl rfl ?_
    refine zk_aload_n (i := 1) dX8_outBits_5 rfl rfl ?_
    refine zk_callVi zY_X10_ends 46 10 [] dX8_outBits_6 zl_X10_ends zc_X8_30 zk_ok10 (Nat.le_of_ble_eq_true rfl) rfl (fTree_ends_ok (d := 0) (Nat.le_refl _) mem  _ rfl) (Nat.lt_of_lt_of_le (by decide) hd) (Nat.le_of_ble_eq_true rfl) ?_
    refine zk_icmp_ge 32 dX8_outBits_9 rfl (fun c5 => ?_) (fun c5 => ?_)
    · have h := zk_it _ h c5
      cases h
      exact zk_weak (zk_leN (zk_leN (zk_leS (zk_leN zk_leE)))) he
    · have h := zk_if _ h c5
      refine zk_aload_n (i := 0) dX8_outBits_12 rfl rfl ?_
      refine zk_iload_n (i := 3) dX8_outBits_13 rfl rfl ?_
      obtain ⟨q1, hq1, h⟩ := zk_ob h
      refine zk_callVi zY_X8_isOut 39 8 [_] dX8_outBits_14 zl_X8_isOut zc_X8_34 zk_ok8 (Nat.le_of_ble_eq_true rfl) rfl (fScene_isOutL_ok (d := 0) (Nat.le_refl _) mem _ _ hq1) (Nat.lt_of_lt_of_le (by decide) hd) (Nat.le_of_ble_eq_true rfl) ?_
      obtain ⟨q2, hq2, h⟩ := zk_lt h
      have Jq2 : zk_J zSX d zY_X8_outBits Z 26 [some (.ref 39), some (.ref 46), some (.int q2), some (.int x3)] [] mem := by
        refine zk_iinc2 dX8_outBits_26 rfl zki_1 (Nat.le_of_ble_eq_true rfl) rfl ?_
        refine zk_goto 4 dX8_outBits_29 rfl ?_
        exact zk_weak (zk_leS (zk_leS (zk_leS (zk_leS zk_leE)))) (ih mem q2 (x3 + (1 : Int32)) _ h he)
      have h := hq2
      clear hq2
      refine zk_if_eq 26 dX8_outBits_17 rfl (fun c4 => ?_) (fun c4 => ?_)
      · have h := zk_it _ h c4
        subst h
        exact zk_weak (zk_leS (zk_leS (zk_leS (zk_leS zk_leE)))) Jq2
      · have h := zk_if _ h c4
        refine zk_iload_n (i := 2) dX8_outBits_20 rfl rfl ?_
        refine zk_iconst dX8_outBits_21 zki_1 ?_
        refine zk_iload_n (i := 3) dX8_outBits_22 rfl rfl ?_
        refine zk_ishl dX8_outBits_23 ?_
        refine zk_ior dX8_outBits_24 ?_
        obtain ⟨v3, ev3, h⟩ := zk_lt h
        refine zk_istore_n' (i := 2) dX8_outBits_25 rfl ev3 (Nat.le_of_ble_eq_true rfl) rfl ?_
        subst h
        exact zk_weak (zk_leS (zk_leS (zk_leS (zk_leS zk_leE)))) Jq2
set_option maxRecDepth 100000 in
set_option maxHeartbeats 4000000 in
theorem fScene_outBitsL_ok {d : Nat} (hd : 1 ≤ d) (mem : zkM) (z : Int32) (h : fScene_outBitsL mem = some z) : zk_X zSX d zY_X8_outBits [.ref 39, .ref 46] mem (some (.int z), mem) := by
  unfold fScene_outBitsL at h
  refine zk_meet (n := 2) (lv := [some (.ref 39), some (.ref 46), none, none]) zpn_X8 rfl (Nat.le_of_ble_eq_true rfl) ?_
  refine zk_iconst dX8_outBits_0 zki_0 ?_
  refine zk_istore_n (i := 2) dX8_outBits_1 rfl (Nat.le_of_ble_eq_true rfl) rfl ?_
  refine zk_iconst dX8_outBits_2 zki_0 ?_
  refine zk_istore_n (i := 3) dX8_outBits_3 rfl (Nat.le_of_ble_eq_true rfl) rfl ?_
  obtain ⟨q1, hq1, h⟩ := zk_ob h
  refine zk_weak (zk_leS (zk_leS (zk_leS (zk_leS zk_leE)))) (fScene_outBitsL_L4_ok hd 500 mem (0 : Int32) (0 : Int32) _ hq1 ?_)
  refine zk_iload_n (i := 2) dX8_outBits_32 rfl rfl ?_
  exact zk_ireturn dX8_outBits_33 rfl (zk_rI (Option.some.inj h))
set_option maxRecDepth 100000 in
set_option maxHeartbeats 4000000 in
theorem fForecast_galesToFirstOut_L21_ok {d : Nat} {r : Option Value × zkM} (hd : 3 ≤ d)  : ∀ (n : Nat) (mem : zkM) (x3 : Int32) (x4 : Int32) (x5 : Int32) (z : (Int32 × zkM) ⊕ (zkM)), fForecast_galesToFirstOut_L21 n mem x3 x4 x5 = some z → (∀ y, z = .inl y → (some (.int y.1), y.2) = r) → (∀ z', z = .inr z' → zk_J zSX d zY_X3_galesToFirstOut (zk_R zSX r) 59 [none, none, none, none, none, none] [] z') → zk_J zSX d zY_X3_galesToFirstOut (zk_R zSX r) 21 [some (.ref 38), some (.ref 46), none, some (.int x3), some (.int x4), some (.int x5)] [] mem := by
  intro n
  induction n with
  | zero => intro mem x3 x4 x5 z h; cases h
  | succ n ih =>
    intro mem x3 x4 x5 z h hr he
    rw [fForecast_galesToFirstOut_L21] at h
    refine zk_iload dX3_galesToFirstOut_21 rfl ?_
    refine zk_bipush dX3_galesToFirstOut_23 zkb_60 ?_
    refine zk_icmp_gt 59 dX3_galesToFirstOut_25 rfl (fun c4 => ?_) (fun c4 => ?_)
    · have h := zk_it _ h c4
      exact zk_weak (zk_leN (zk_leN (zk_leN (zk_leN (zk_leN (zk_leN zk_leE)))))) (he _ (Option.some.inj h).symm)
    · have h := zk_if _ h c4
      refine zk_aload_n (i := 0) dX3_galesToFirstOut_28 rfl rfl ?_
      refine zk_getR 38 3 0 dX3_galesToFirstOut_29 zf_X3_12 (Nat.le_of_ble_eq_true rfl) rfl rfl ?_
      refine zk_aload_n (i := 1) dX3_galesToFirstOut_32 rfl rfl ?_
      refine zk_iload_n (i := 3) dX3_galesToFirstOut_33 rfl rfl ?_
      obtain ⟨q1, hq1, h⟩ := zk_ob h
      refine zk_callVv zY_X8_blow 39 8 [_, _] dX3_galesToFirstOut_34 zl_X8_blow zc_X3_30 zk_ok8 (Nat.le_of_ble_eq_true rfl) rfl (fScene_blowL_ok (d := 2) (Nat.le_refl _) mem _ _ hq1) (Nat.lt_of_lt_of_le (by decide) hd) (Nat.le_of_ble_eq_true rfl) ?_
      refine zk_aload_n (i := 0) dX3_galesToFirstOut_37 rfl rfl ?_
      refine zk_getR 38 3 0 dX3_galesToFirstOut_38 zf_X3_12 (Nat.le_of_ble_eq_true rfl) rfl rfl ?_
      refine zk_aload_n (i := 1) dX3_galesToFirstOut_41 rfl rfl ?_
      obtain ⟨q2, hq2, h⟩ := zk_ob h
      refine zk_callVi zY_X8_outBits 39 8 [_] dX3_galesToFirstOut_42 zl_X8_outBits zc_X3_26 zk_ok8 (Nat.le_of_ble_eq_true rfl) rfl (fScene_outBitsL_ok (d := 1) (Nat.le_refl _) q1  _ hq2) (Nat.lt_of_lt_of_le (by decide) hd) (Nat.le_of_ble_eq_true rfl) ?_
      refine zk_iload dX3_galesToFirstOut_45 rfl ?_
      refine zk_icmp_eq 53 dX3_galesToFirstOut_47 rfl (fun c3 => ?_) (fun c3 => ?_)
      · have h := zk_it _ h c3
        refine zk_iinc2 dX3_galesToFirstOut_53 rfl zki_1 (Nat.le_of_ble_eq_true rfl) rfl ?_
        refine zk_goto 21 dX3_galesToFirstOut_56 rfl ?_
        exact zk_weak (zk_leS (zk_leS (zk_leN (zk_leS (zk_leS (zk_leS zk_leE)))))) (ih q1 x3 x4 (x5 + (1 : Int32)) _ h hr he)
      · have h := zk_if _ h c3
        refine zk_iload dX3_galesToFirstOut_50 rfl ?_
        exact zk_ireturn dX3_galesToFirstOut_52 rfl ((zk_rIw rfl).trans (hr _ (Option.some.inj h).symm))
set_option maxRecDepth 100000 in
set_option maxHeartbeats 4000000 in
theorem fForecast_galesToFirstOut_ok {d : Nat} (hd : 3 ≤ d) (mem : zkM) (a3 : Int32) (z : Int32 × zkM) (h : fForecast_galesToFirstOut mem a3 = some z) : zk_X zSX d zY_X3_galesToFirstOut [.ref 38, .ref 46, .ref 4, .int a3] mem (some (.int z.1), z.2) := by
  unfold fForecast_galesToFirstOut at h
  refine zk_meet (n := 2) (lv := [some (.ref 38), some (.ref 46), some (.ref 4), some (.int a3), none, none]) zpn_X3 rfl (Nat.le_of_ble_eq_true rfl) ?_
  refine zk_aload_n (i := 0) dX3_galesToFirstOut_0 rfl rfl ?_
  refine zk_getR 38 3 0 dX3_galesToFirstOut_1 zf_X3_12 (Nat.le_of_ble_eq_true rfl) rfl rfl ?_
  refine zk_aload_n (i := 2) dX3_galesToFirstOut_4 rfl rfl ?_
  refine zk_getR 4 8 0 dX3_galesToFirstOut_5 zf_X3_18 (Nat.le_of_ble_eq_true rfl) rfl rfl ?_
  obtain ⟨q1, hq1, h⟩ := zk_lt h
  refine zk_callVv zY_X8_copyFrom 39 8 [_] dX3_galesToFirstOut_8 zl_X8_copyFrom zc_X3_22 zk_ok8 (Nat.le_of_ble_eq_true rfl) rfl (fScene_copyFromL_5_ok (d := 0) (Nat.le_refl _) mem  _ hq1) (Nat.lt_of_lt_of_le (by decide) hd) (Nat.le_of_ble_eq_true rfl) ?_
  refine zk_aload_n (i := 2) dX3_galesToFirstOut_11 rfl rfl ?_
  refine zk_aload_n (i := 1) dX3_galesToFirstOut_12 rfl rfl ?_
  obtain ⟨q2, hq2, h⟩ := zk_ob h
  refine zk_callVi zY_X8_outBits 4 8 [_] dX3_galesToFirstOut_13 zl_X8_outBits zc_X3_26 zk_ok8 (Nat.le_of_ble_eq_true rfl) rfl (fScene_outBits_ok (d := 1) (Nat.le_refl _) q1  _ hq2) (Nat.lt_of_lt_of_le (by decide) hd) (Nat.le_of_ble_eq_true rfl) ?_
  refine zk_istore dX3_galesToFirstOut_16 (Nat.le_of_ble_eq_true rfl) rfl ?_
  refine zk_iconst dX3_galesToFirstOut_18 zki_1 ?_
  refine zk_istore dX3_galesToFirstOut_19 (Nat.le_of_ble_eq_true rfl) rfl ?_
  obtain ⟨q3, hq3, h⟩ := zk_ob h
  refine zk_weak (zk_leS (zk_leS (zk_leN (zk_leS (zk_leS (zk_leS zk_leE)))))) (fForecast_galesToFirstOut_L21_ok hd 500 q1 a3 q2 (1 : Int32) _ hq3 (fun y hy => ?_) (fun q4 hy => ?_))
  · subst hy; have h := zk_el h; cases h; rfl
  subst hy
  have h := zk_er h
  refine zk_bipush dX3_galesToFirstOut_59 zkb_m9 ?_
  exact zk_ireturn dX3_galesToFirstOut_61 rfl (zk_rIw (Option.some.inj h))
set_option maxRecDepth 100000 in
set_option maxHeartbeats 4000000 in
theorem fJint_numberOfTrailingZeros_ok {d : Nat} (hd : 0 ≤ d) (mem : zkM) (a0 : Int32) (z : Int32) (h : fJint_numberOfTrailingZeros a0 = z) : zk_X zSX d zY_J6_numberOfTrailingZeros_0f7a4 [.int a0] mem (some (.int z), mem) := by
  unfold fJint_numberOfTrailingZeros at h
  refine zk_meet (n := 1) (lv := [some (.int a0), none]) zpn_J6 rfl (Nat.le_of_ble_eq_true rfl) ?_
  refine zk_iload_n (i := 0) dJ6_numberOfTrailingZeros_0f7a4_0 rfl rfl ?_
  refine zk_iconst dJ6_numberOfTrailingZeros_0f7a4_1 zki_m1 ?_
  refine zk_ixor dJ6_numberOfTrailingZeros_0f7a4_2 ?_
  refine zk_iload_n (i := 0) dJ6_numberOfTrailingZeros_0f7a4_3 rfl rfl ?_
  refine zk_iconst dJ6_numberOfTrailingZeros_0f7a4_4 zki_1 ?_
  refine zk_isub dJ6_numberOfTrailingZeros_0f7a4_5 ?_
  refine zk_iand dJ6_numberOfTrailingZeros_0f7a4_6 ?_
  obtain ⟨v1, ev1, h⟩ := zk_lt h
  refine zk_istore_n' (i := 0) dJ6_numberOfTrailingZeros_0f7a4_7 rfl ev1 (Nat.le_of_ble_eq_true rfl) rfl ?_
  refine zk_iload_n (i := 0) dJ6_numberOfTrailingZeros_0f7a4_8 rfl rfl ?_
  refine zk_if_gt 17 dJ6_numberOfTrailingZeros_0f7a4_9 rfl (fun c14 => ?_) (fun c14 => ?_)
  · have h := zk_it _ h c14
    refine zk_iconst dJ6_numberOfTrailingZeros_0f7a4_17 zki_1 ?_
    refine zk_istore_n (i := 1) dJ6_numberOfTrailingZeros_0f7a4_18 rfl (Nat.le_of_ble_eq_true rfl) rfl ?_
    refine zk_iload_n (i := 0) dJ6_numberOfTrailingZeros_0f7a4_19 rfl rfl ?_
    refine zk_ldcw dJ6_numberOfTrailingZeros_0f7a4_20 zd_J6_264 ?_
    obtain ⟨q2, hq2, h⟩ := zk_lt h
    have Jq2 : zk_J zSX d zY_J6_numberOfTrailingZeros_0f7a4 (zk_R zSX (some (.int z), mem)) 34 [some (.int q2.1), some (.int q2.2)] [] mem := by
      refine zk_iload_n (i := 0) dJ6_numberOfTrailingZeros_0f7a4_34 rfl rfl ?_
      refine zk_sipush dJ6_numberOfTrailingZeros_0f7a4_35 zks_256 ?_
      obtain ⟨q5, hq5, h⟩ := zk_lt h
      have Jq5 : zk_J zSX d zY_J6_numberOfTrailingZeros_0f7a4 (zk_R zSX (some (.int z), mem)) 49 [some (.int q5.1), some (.int q5.2)] [] mem := by
        refine zk_iload_n (i := 0) dJ6_numberOfTrailingZeros_0f7a4_49 rfl rfl ?_
        refine zk_bipush dJ6_numberOfTrailingZeros_0f7a4_50 zkb_16 ?_
        obtain ⟨q8, hq8, h⟩ := zk_lt h
        have Jq8 : zk_J zSX d zY_J6_numberOfTrailingZeros_0f7a4 (zk_R zSX (some (.int z), mem)) 62 [some (.int q8.1), some (.int q8.2)] [] mem := by
          refine zk_iload_n (i := 0) dJ6_numberOfTrailingZeros_0f7a4_62 rfl rfl ?_
          refine zk_iconst dJ6_numberOfTrailingZeros_0f7a4_63 zki_4 ?_
          obtain ⟨q11, hq11, h⟩ := zk_lt h
          have Jq11 : zk_J zSX d zY_J6_numberOfTrailingZeros_0f7a4 (zk_R zSX (some (.int z), mem)) 74 [some (.int q11.1), some (.int q11.2)] [] mem := by
            refine zk_iload_n (i := 1) dJ6_numberOfTrailingZeros_0f7a4_74 rfl rfl ?_
            refine zk_iload_n (i := 0) dJ6_numberOfTrailingZeros_0f7a4_75 rfl rfl ?_
            refine zk_iconst dJ6_numberOfTrailingZeros_0f7a4_76 zki_1 ?_
            refine zk_iushr dJ6_numberOfTrailingZeros_0f7a4_77 rfl ?_
            refine zk_iadd dJ6_numberOfTrailingZeros_0f7a4_78 ?_
            exact zk_ireturn dJ6_numberOfTrailingZeros_0f7a4_79 rfl (zk_rI h)
          have h := hq11
          clear hq11
          refine zk_icmp_le 74 dJ6_numberOfTrailingZeros_0f7a4_64 rfl (fun c13 => ?_) (fun c13 => ?_)
          · have h := zk_it _ h c13
            subst h
            exact zk_weak (zk_leS (zk_leS zk_leE)) Jq11
          · have h := zk_if _ h c13
            refine zk_iinc2 dJ6_numberOfTrailingZeros_0f7a4_67 rfl zki_2 (Nat.le_of_ble_eq_true rfl) rfl ?_
            refine zk_iload_n (i := 0) dJ6_numberOfTrailingZeros_0f7a4_70 rfl rfl ?_
            refine zk_iconst dJ6_numberOfTrailingZeros_0f7a4_71 zki_2 ?_
            refine zk_iushr dJ6_numberOfTrailingZeros_0f7a4_72 rfl ?_
            obtain ⟨v12, ev12, h⟩ := zk_lt h
            refine zk_istore_n' (i := 0) dJ6_numberOfTrailingZeros_0f7a4_73 rfl ev12 (Nat.le_of_ble_eq_true rfl) rfl ?_
            subst h
            exact zk_weak (zk_leS (zk_leS zk_leE)) Jq11
        have h := hq8
        clear hq8
        refine zk_icmp_le 62 dJ6_numberOfTrailingZeros_0f7a4_52 rfl (fun c10 => ?_) (fun c10 => ?_)
        · have h := zk_it _ h c10
          subst h
          exact zk_weak (zk_leS (zk_leS zk_leE)) Jq8
        · have h := zk_if _ h c10
          refine zk_iinc2 dJ6_numberOfTrailingZeros_0f7a4_55 rfl zki_4 (Nat.le_of_ble_eq_true rfl) rfl ?_
          refine zk_iload_n (i := 0) dJ6_numberOfTrailingZeros_0f7a4_58 rfl rfl ?_
          refine zk_iconst dJ6_numberOfTrailingZeros_0f7a4_59 zki_4 ?_
          refine zk_iushr dJ6_numberOfTrailingZeros_0f7a4_60 rfl ?_
          obtain ⟨v9, ev9, h⟩ := zk_lt h
          refine zk_istore_n' (i := 0) dJ6_numberOfTrailingZeros_0f7a4_61 rfl ev9 (Nat.le_of_ble_eq_true rfl) rfl ?_
          subst h
          exact zk_weak (zk_leS (zk_leS zk_leE)) Jq8
      have h := hq5
      clear hq5
      refine zk_icmp_le 49 dJ6_numberOfTrailingZeros_0f7a4_38 rfl (fun c7 => ?_) (fun c7 => ?_)
      · have h := zk_it _ h c7
        subst h
        exact zk_weak (zk_leS (zk_leS zk_leE)) Jq5
      · have h := zk_if _ h c7
        refine zk_iinc2 dJ6_numberOfTrailingZeros_0f7a4_41 rfl zki_8 (Nat.le_of_ble_eq_true rfl) rfl ?_
        refine zk_iload_n (i := 0) dJ6_numberOfTrailingZeros_0f7a4_44 rfl rfl ?_
        refine zk_bipush dJ6_numberOfTrailingZeros_0f7a4_45 zkb_8 ?_
        refine zk_iushr dJ6_numberOfTrailingZeros_0f7a4_47 rfl ?_
        obtain ⟨v6, ev6, h⟩ := zk_lt h
        refine zk_istore_n' (i := 0) dJ6_numberOfTrailingZeros_0f7a4_48 rfl ev6 (Nat.le_of_ble_eq_true rfl) rfl ?_
        subst h
        exact zk_weak (zk_leS (zk_leS zk_leE)) Jq5
    have h := hq2
    clear hq2
    refine zk_icmp_le 34 dJ6_numberOfTrailingZeros_0f7a4_23 rfl (fun c4 => ?_) (fun c4 => ?_)
    · have h := zk_it _ h c4
      subst h
      exact zk_weak (zk_leS (zk_leS zk_leE)) Jq2
    · have h := zk_if _ h c4
      refine zk_iinc2 dJ6_numberOfTrailingZeros_0f7a4_26 rfl zki_16 (Nat.le_of_ble_eq_true rfl) rfl ?_
      refine zk_iload_n (i := 0) dJ6_numberOfTrailingZeros_0f7a4_29 rfl rfl ?_
      refine zk_bipush dJ6_numberOfTrailingZeros_0f7a4_30 zkb_16 ?_
      refine zk_iushr dJ6_numberOfTrailingZeros_0f7a4_32 rfl ?_
      obtain ⟨v3, ev3, h⟩ := zk_lt h
      refine zk_istore_n' (i := 0) dJ6_numberOfTrailingZeros_0f7a4_33 rfl ev3 (Nat.le_of_ble_eq_true rfl) rfl ?_
      subst h
      exact zk_weak (zk_leS (zk_leS zk_leE)) Jq2
  · have h := zk_if _ h c14
    refine zk_iload_n (i := 0) dJ6_numberOfTrailingZeros_0f7a4_12 rfl rfl ?_
    refine zk_bipush dJ6_numberOfTrailingZeros_0f7a4_13 zkb_32 ?_
    refine zk_iand dJ6_numberOfTrailingZeros_0f7a4_15 ?_
    exact zk_ireturn dJ6_numberOfTrailingZeros_0f7a4_16 rfl (zk_rI h)
set_option maxRecDepth 100000 in
set_option maxHeartbeats 4000000 in
theorem fForecast_endFirstOut_ok {d : Nat} (hd : 4 ≤ d) (mem : zkM) (a3 : Int32) (z : Int32 × zkM) (h : fForecast_endFirstOut mem a3 = some z) : zk_X zSX d zY_X3_endFirstOut [.ref 38, .ref 46, .ref 4, .int a3] mem (some (.int z.1), z.2) := by
  unfold fForecast_endFirstOut at h
  refine zk_meet (n := 0) (lv := [some (.ref 38), some (.ref 46), some (.ref 4), some (.int a3)]) zpn_X3 rfl (Nat.le_of_ble_eq_true rfl) ?_
  refine zk_aload_n (i := 0) dX3_endFirstOut_0 rfl rfl ?_
  refine zk_aload_n (i := 1) dX3_endFirstOut_1 rfl rfl ?_
  refine zk_aload_n (i := 2) dX3_endFirstOut_2 rfl rfl ?_
  refine zk_iload_n (i := 3) dX3_endFirstOut_3 rfl rfl ?_
  obtain ⟨q1, hq1, h⟩ := zk_ob h
  refine zk_callVi zY_X3_galesToFirstOut 38 3 [_, _, _] dX3_endFirstOut_4 zl_X3_galesToFirstOut zc_X3_34 zk_ok3 (Nat.le_of_ble_eq_true rfl) rfl (fForecast_galesToFirstOut_ok (d := 3) (Nat.le_refl _) mem _ _ hq1) (Nat.lt_of_lt_of_le (by decide) hd) (Nat.le_of_ble_eq_true rfl) ?_
  refine zk_bipush dX3_endFirstOut_7 zkb_m9 ?_
  refine zk_icmp_ne 15 dX3_endFirstOut_9 rfl (fun c4 => ?_) (fun c4 => ?_)
  · have h := zk_if _ h c4
    refine zk_aload_n (i := 0) dX3_endFirstOut_15 rfl rfl ?_
    refine zk_getR 38 3 0 dX3_endFirstOut_16 zf_X3_12 (Nat.le_of_ble_eq_true rfl) rfl rfl ?_
    refine zk_aload_n (i := 1) dX3_endFirstOut_19 rfl rfl ?_
    obtain ⟨q2, hq2, h⟩ := zk_ob h
    refine zk_callVi zY_X8_outBits 39 8 [_] dX3_endFirstOut_20 zl_X8_outBits zc_X3_26 zk_ok8 (Nat.le_of_ble_eq_true rfl) rfl (fScene_outBitsL_ok (d := 1) (Nat.le_refl _) q1.2  _ hq2) (Nat.lt_of_lt_of_le (by decide) hd) (Nat.le_of_ble_eq_true rfl) ?_
    refine zk_aload_n (i := 2) dX3_endFirstOut_23 rfl rfl ?_
    refine zk_aload_n (i := 1) dX3_endFirstOut_24 rfl rfl ?_
    obtain ⟨q3, hq3, h⟩ := zk_ob h
    refine zk_callVi zY_X8_outBits 4 8 [_] dX3_endFirstOut_25 zl_X8_outBits zc_X3_26 zk_ok8 (Nat.le_of_ble_eq_true rfl) rfl (fScene_outBits_ok (d := 1) (Nat.le_refl _) q1.2  _ hq3) (Nat.lt_of_lt_of_le (by decide) hd) (Nat.le_of_ble_eq_true rfl) ?_
    refine zk_iconst dX3_endFirstOut_28 zki_m1 ?_
    refine zk_ixor dX3_endFirstOut_29 ?_
    refine zk_iand dX3_endFirstOut_30 ?_
    refine zk_callSi zY_J6_numberOfTrailingZeros_0f7a4 [_] dX3_endFirstOut_31 zl_J6_numberOfTrailingZeros_0f7a4 zc_X3_38 (fJint_numberOfTrailingZeros_ok (d := 0) (Nat.le_refl _) q1.2 _ _ rfl) (Nat.lt_of_lt_of_le (by decide) hd) (Nat.le_of_ble_eq_true rfl) ?_
    exact zk_ireturn dX3_endFirstOut_34 rfl (zk_rIw (Option.some.inj h))
  · have h := zk_it _ h c4
    refine zk_bipush dX3_endFirstOut_12 zkb_m9 ?_
    exact zk_ireturn dX3_endFirstOut_14 rfl (zk_rIw (Option.some.inj h))
set_option maxRecDepth 100000 in
set_option maxHeartbeats 4000000 in
theorem fTp_firstOut_ok {d : Nat} (hd : 5 ≤ d) (mem : zkM) (a1 : Int32) (a2 : Int32) (z : Int32 × zkM) (h : fTp_firstOut mem a1 a2 = some z) : zk_X zSX d zY_X11_firstOut [.ref 0, .int a1, .int a2] mem (some (.int z.1), z.2) := by
  unfold fTp_firstOut at h
  refine zk_meet (n := 0) (lv := [some (.ref 0), some (.int a1), some (.int a2)]) zpn_X11 rfl (Nat.le_of_ble_eq_true rfl) ?_
  refine zk_iload_n (i := 1) dX11_firstOut_0 rfl rfl ?_
  refine zk_callSi zY_X11_isForce [_] dX11_firstOut_1 zl_X11_isForce zc_X11_207 (fTp_isForce_ok (d := 1) (Nat.le_refl _) mem _ _ rfl) (Nat.lt_of_lt_of_le (by decide) hd) (Nat.le_of_ble_eq_true rfl) ?_
  refine zk_if_eq 16 dX11_firstOut_4 rfl (fun c5 => ?_) (fun c5 => ?_)
  · have h := zk_it _ h c5
    refine zk_iconst dX11_firstOut_16 zki_m1 ?_
    exact zk_ireturn dX11_firstOut_17 rfl (zk_rIw (Option.some.inj h))
  · have h := zk_if _ h c5
    refine zk_iload_n (i := 2) dX11_firstOut_7 rfl rfl ?_
    refine zk_iconst dX11_firstOut_8 zki_0 ?_
    refine zk_iconst dX11_firstOut_9 zki_1 ?_
    refine zk_callSi zY_X11_within [_, _, _] dX11_firstOut_10 zl_X11_within zc_X11_93 (fTp_within_ok (d := 0) (Nat.le_refl _) mem _ _ _ _ rfl) (Nat.lt_of_lt_of_le (by decide) hd) (Nat.le_of_ble_eq_true rfl) ?_
    refine zk_if_ne 18 dX11_firstOut_13 rfl (fun c4 => ?_) (fun c4 => ?_)
    · have h := zk_if _ h c4
      refine zk_iload_n (i := 2) dX11_firstOut_18 rfl rfl ?_
      refine zk_if_ne 41 dX11_firstOut_19 rfl (fun c3 => ?_) (fun c3 => ?_)
      · have h := zk_if _ h c3
        refine zk_aload_n (i := 0) dX11_firstOut_41 rfl rfl ?_
        refine zk_getR 0 11 7 dX11_firstOut_42 zf_X11_61 (Nat.le_of_ble_eq_true rfl) rfl rfl ?_
        refine zk_aload_n (i := 0) dX11_firstOut_45 rfl rfl ?_
        refine zk_getR 0 11 10 dX11_firstOut_46 zf_X11_82 (Nat.le_of_ble_eq_true rfl) rfl rfl ?_
        refine zk_aload_n (i := 0) dX11_firstOut_49 rfl rfl ?_
        refine zk_getR 0 11 1 dX11_firstOut_50 zf_X11_19 (Nat.le_of_ble_eq_true rfl) rfl rfl ?_
        refine zk_iload_n (i := 1) dX11_firstOut_53 rfl rfl ?_
        obtain ⟨q1, hq1, h⟩ := zk_ob h
        refine zk_callVi zY_X3_endFirstOut 38 3 [_, _, _] dX11_firstOut_54 zl_X3_endFirstOut zc_X11_246 zk_ok3 (Nat.le_of_ble_eq_true rfl) rfl (fForecast_endFirstOut_ok (d := 4) (Nat.le_refl _) mem _ _ hq1) (Nat.lt_of_lt_of_le (by decide) hd) (Nat.le_of_ble_eq_true rfl) ?_
        exact zk_ireturn dX11_firstOut_57 rfl (zk_rIw (Option.some.inj h))
      · have h := zk_it _ h c3
        refine zk_aload_n (i := 0) dX11_firstOut_22 rfl rfl ?_
        refine zk_getR 0 11 7 dX11_firstOut_23 zf_X11_61 (Nat.le_of_ble_eq_true rfl) rfl rfl ?_
        refine zk_aload_n (i := 0) dX11_firstOut_26 rfl rfl ?_
        refine zk_getR 0 11 10 dX11_firstOut_27 zf_X11_82 (Nat.le_of_ble_eq_true rfl) rfl rfl ?_
        refine zk_aload_n (i := 0) dX11_firstOut_30 rfl rfl ?_
        refine zk_getR 0 11 1 dX11_firstOut_31 zf_X11_19 (Nat.le_of_ble_eq_true rfl) rfl rfl ?_
        refine zk_iload_n (i := 1) dX11_firstOut_34 rfl rfl ?_
        obtain ⟨q2, hq2, h⟩ := zk_ob h
        refine zk_callVi zY_X3_galesToFirstOut 38 3 [_, _, _] dX11_firstOut_35 zl_X3_galesToFirstOut zc_X11_242 zk_ok3 (Nat.le_of_ble_eq_true rfl) rfl (fForecast_galesToFirstOut_ok (d := 3) (Nat.le_refl _) mem _ _ hq2) (Nat.lt_of_lt_of_le (by decide) hd) (Nat.le_of_ble_eq_true rfl) ?_
        refine zk_goto 57 dX11_firstOut_38 rfl ?_
        exact zk_ireturn dX11_firstOut_57 rfl (zk_rIw (Option.some.inj h))
    · have h := zk_it _ h c4
      refine zk_iconst dX11_firstOut_16 zki_m1 ?_
      exact zk_ireturn dX11_firstOut_17 rfl (zk_rIw (Option.some.inj h))
set_option maxRecDepth 100000 in
set_option maxHeartbeats 4000000 in
theorem fScene_hasBothEndsL_ok {d : Nat} (hd : 1 ≤ d) (mem : zkM) (a1 : Int32) (z : Bool) (h : fScene_hasBothEndsL mem a1 = some z) : zk_X zSX d zY_X8_hasBothEnds [.ref 39, .int a1] mem (some (.int (zk_b z)), mem) := by
  unfold fScene_hasBothEndsL at h
  refine zk_meet (n := 0) (lv := [some (.ref 39), some (.int a1)]) zpn_X8 rfl (Nat.le_of_ble_eq_true rfl) ?_
  refine zk_aload_n (i := 0) dX8_hasBothEnds_0 rfl rfl ?_
  refine zk_iconst dX8_hasBothEnds_1 zki_2 ?_
  refine zk_iload_n (i := 1) dX8_hasBothEnds_2 rfl rfl ?_
  refine zk_imul dX8_hasBothEnds_3 ?_
  obtain ⟨q1, hq1, h⟩ := zk_ob h
  refine zk_callVi zY_X8_isOut 39 8 [_] dX8_hasBothEnds_4 zl_X8_isOut zc_X8_34 zk_ok8 (Nat.le_of_ble_eq_true rfl) rfl (fScene_isOutL_ok (d := 0) (Nat.le_refl _) mem _ _ hq1) (Nat.lt_of_lt_of_le (by decide) hd) (Nat.le_of_ble_eq_true rfl) ?_
  refine zk_if_ne 26 dX8_hasBothEnds_7 rfl (fun c4 => ?_) (fun c4 => ?_)
  · have h := zk_if _ h c4
    refine zk_iconst dX8_hasBothEnds_26 zki_0 ?_
    exact zk_zreturn dX8_hasBothEnds_27 rfl rfl (zk_rZ (Option.some.inj h))
  · have h := zk_it _ h c4
    refine zk_aload_n (i := 0) dX8_hasBothEnds_10 rfl rfl ?_
    refine zk_iconst dX8_hasBothEnds_11 zki_2 ?_
    refine zk_iload_n (i := 1) dX8_hasBothEnds_12 rfl rfl ?_
    refine zk_imul dX8_hasBothEnds_13 ?_
    refine zk_iconst dX8_hasBothEnds_14 zki_1 ?_
    refine zk_iadd dX8_hasBothEnds_15 ?_
    obtain ⟨q2, hq2, h⟩ := zk_ob h
    refine zk_callVi zY_X8_isOut 39 8 [_] dX8_hasBothEnds_16 zl_X8_isOut zc_X8_34 zk_ok8 (Nat.le_of_ble_eq_true rfl) rfl (fScene_isOutL_ok (d := 0) (Nat.le_refl _) mem _ _ hq2) (Nat.lt_of_lt_of_le (by decide) hd) (Nat.le_of_ble_eq_true rfl) ?_
    refine zk_if_ne 26 dX8_hasBothEnds_19 rfl (fun c3 => ?_) (fun c3 => ?_)
    · have h := zk_if _ h c3
      refine zk_iconst dX8_hasBothEnds_26 zki_0 ?_
      exact zk_zreturn dX8_hasBothEnds_27 rfl rfl (zk_rZ (Option.some.inj h))
    · have h := zk_it _ h c3
      refine zk_iconst dX8_hasBothEnds_22 zki_1 ?_
      refine zk_goto 27 dX8_hasBothEnds_23 rfl ?_
      exact zk_zreturn dX8_hasBothEnds_27 rfl rfl (zk_rZ (Option.some.inj h))
set_option maxRecDepth 100000 in
set_option maxHeartbeats 4000000 in
theorem fBurden_firstUnheldL_L2_ok {d : Nat} {r : Option Value × zkM} (hd : 2 ≤ d)  : ∀ (n : Nat) (mem : zkM) (x3 : Int32) (z : (Int32) ⊕ (Unit)), fBurden_firstUnheldL_L2 n mem x3 = some z → (∀ y, z = .inl y → (some (.int y), mem) = r) → (∀ z', z = .inr z' → zk_J zSX d zY_X1_firstUnheld (zk_R zSX r) 35 [none, none, none, none] [] mem) → zk_J zSX d zY_X1_firstUnheld (zk_R zSX r) 2 [some (.ref 6), some (.ref 46), some (.ref 39), some (.int x3)] [] mem := by
  intro n
  induction n with
  | zero => intro mem x3 z h; cases h
  | succ n ih =>
    intro mem x3 z h hr he
    rw [fBurden_firstUnheldL_L2] at h
    refine zk_iload_n (i := 3) dX1_firstUnheld_2 rfl rfl ?_
    refine zk_aload_n (i := 1) dX1_firstUnheld_3 rfl rfl ?_
    refine zk_getI 46 10 1 dX1_firstUnheld_4 zf_X1_33 (Nat.le_of_ble_eq_true rfl) rfl rfl ?_
    refine zk_icmp_ge 35 dX1_firstUnheld_7 rfl (fun c5 => ?_) (fun c5 => ?_)
    · have h := zk_it _ h c5
      exact zk_weak (zk_leN (zk_leN (zk_leN (zk_leN zk_leE)))) (he _ (Option.some.inj h).symm)
    · have h := zk_if _ h c5
      refine zk_aload_n (i := 0) dX1_firstUnheld_10 rfl rfl ?_
      refine zk_getR 6 1 0 dX1_firstUnheld_11 zf_X1_9 (Nat.le_of_ble_eq_true rfl) rfl rfl ?_
      refine zk_iload_n (i := 3) dX1_firstUnheld_14 rfl rfl ?_
      obtain ⟨b1, h⟩ := zk_gd h
      refine zk_iaload 7 6 dX1_firstUnheld_15 (Nat.le_of_ble_eq_true rfl) rfl (zk_inb_in b1) ?_
      refine zk_if_le 29 dX1_firstUnheld_16 rfl (fun c4 => ?_) (fun c4 => ?_)
      · have h := zk_it _ h c4
        refine zk_iinc2 dX1_firstUnheld_29 rfl zki_1 (Nat.le_of_ble_eq_true rfl) rfl ?_
        refine zk_goto 2 dX1_firstUnheld_32 rfl ?_
        exact zk_weak (zk_leS (zk_leS (zk_leS (zk_leS zk_leE)))) (ih mem (x3 + (1 : Int32)) _ h hr he)
      · have h := zk_if _ h c4
        refine zk_aload_n (i := 2) dX1_firstUnheld_19 rfl rfl ?_
        refine zk_iload_n (i := 3) dX1_firstUnheld_20 rfl rfl ?_
        obtain ⟨q2, hq2, h⟩ := zk_ob h
        refine zk_callVi zY_X8_hasBothEnds 39 8 [_] dX1_firstUnheld_21 zl_X8_hasBothEnds zc_X1_70 zk_ok8 (Nat.le_of_ble_eq_true rfl) rfl (fScene_hasBothEndsL_ok (d := 1) (Nat.le_refl _) mem _ _ hq2) (Nat.lt_of_lt_of_le (by decide) hd) (Nat.le_of_ble_eq_true rfl) ?_
        refine zk_if_ne 29 dX1_firstUnheld_24 rfl (fun c3 => ?_) (fun c3 => ?_)
        · have h := zk_if _ h c3
          refine zk_iinc2 dX1_firstUnheld_29 rfl zki_1 (Nat.le_of_ble_eq_true rfl) rfl ?_
          refine zk_goto 2 dX1_firstUnheld_32 rfl ?_
          exact zk_weak (zk_leS (zk_leS (zk_leS (zk_leS zk_leE)))) (ih mem (x3 + (1 : Int32)) _ h hr he)
        · have h := zk_it _ h c3
          refine zk_iload_n (i := 3) dX1_firstUnheld_27 rfl rfl ?_
          exact zk_ireturn dX1_firstUnheld_28 rfl ((zk_rI rfl).trans (hr _ (Option.some.inj h).symm))
set_option maxRecDepth 100000 in
set_option maxHeartbeats 4000000 in
theorem fBurden_firstUnheldL_ok {d : Nat} (hd : 2 ≤ d) (mem : zkM) (z : Int32) (h : fBurden_firstUnheldL mem = some z) : zk_X zSX d zY_X1_firstUnheld [.ref 6, .ref 46, .ref 39] mem (some (.int z), mem) := by
  unfold fBurden_firstUnheldL at h
  refine zk_meet (n := 1) (lv := [some (.ref 6), some (.ref 46), some (.ref 39), none]) zpn_X1 rfl (Nat.le_of_ble_eq_true rfl) ?_
  refine zk_iconst dX1_firstUnheld_0 zki_0 ?_
  refine zk_istore_n (i := 3) dX1_firstUnheld_1 rfl (Nat.le_of_ble_eq_true rfl) rfl ?_
  obtain ⟨q1, hq1, h⟩ := zk_ob h
  refine zk_weak (zk_leS (zk_leS (zk_leS (zk_leS zk_leE)))) (fBurden_firstUnheldL_L2_ok hd 500 mem (0 : Int32) _ hq1 (fun y hy => ?_) (fun q2 hy => ?_))
  · subst hy; have h := zk_el h; cases h; rfl
  subst hy
  have h := zk_er h
  refine zk_bipush dX1_firstUnheld_35 zkb_m9 ?_
  exact zk_ireturn dX1_firstUnheld_37 rfl (zk_rI (Option.some.inj h))
set_option maxRecDepth 100000 in
set_option maxHeartbeats 4000000 in
theorem fBurden_allHoldL_ok {d : Nat} (hd : 3 ≤ d) (mem : zkM) (z : Bool) (h : fBurden_allHoldL mem = some z) : zk_X zSX d zY_X1_allHold [.ref 6, .ref 46, .ref 39] mem (some (.int (zk_b z)), mem) := by
  unfold fBurden_allHoldL at h
  refine zk_meet (n := 0) (lv := [some (.ref 6), some (.ref 46), some (.ref 39)]) zpn_X1 rfl (Nat.le_of_ble_eq_true rfl) ?_
  refine zk_aload_n (i := 0) dX1_allHold_0 rfl rfl ?_
  refine zk_aload_n (i := 1) dX1_allHold_1 rfl rfl ?_
  obtain ⟨q1, hq1, h⟩ := zk_ob h
  refine zk_callVi zY_X1_firstTooLaden 6 1 [_] dX1_allHold_2 zl_X1_firstTooLaden zc_X1_56 zk_ok1 (Nat.le_of_ble_eq_true rfl) rfl (fBurden_firstTooLaden_ok (d := 0) (Nat.le_refl _) mem  _ hq1) (Nat.lt_of_lt_of_le (by decide) hd) (Nat.le_of_ble_eq_true rfl) ?_
  refine zk_bipush dX1_allHold_5 zkb_m9 ?_
  refine zk_icmp_ne 35 dX1_allHold_7 rfl (fun c6 => ?_) (fun c6 => ?_)
  · have h := zk_if _ h c6
    refine zk_iconst dX1_allHold_35 zki_0 ?_
    exact zk_zreturn dX1_allHold_36 rfl rfl (zk_rZ (Option.some.inj h))
  · have h := zk_it _ h c6
    refine zk_aload_n (i := 0) dX1_allHold_10 rfl rfl ?_
    refine zk_aload_n (i := 1) dX1_allHold_11 rfl rfl ?_
    obtain ⟨q2, hq2, h⟩ := zk_ob h
    refine zk_callVi zY_X1_firstTooBent 6 1 [_] dX1_allHold_12 zl_X1_firstTooBent zc_X1_60 zk_ok1 (Nat.le_of_ble_eq_true rfl) rfl (fBurden_firstTooBent_ok (d := 0) (Nat.le_refl _) mem  _ hq2) (Nat.lt_of_lt_of_le (by decide) hd) (Nat.le_of_ble_eq_true rfl) ?_
    refine zk_bipush dX1_allHold_15 zkb_m9 ?_
    refine zk_icmp_ne 35 dX1_allHold_17 rfl (fun c5 => ?_) (fun c5 => ?_)
    · have h := zk_if _ h c5
      refine zk_iconst dX1_allHold_35 zki_0 ?_
      exact zk_zreturn dX1_allHold_36 rfl rfl (zk_rZ (Option.some.inj h))
    · have h := zk_it _ h c5
      refine zk_aload_n (i := 0) dX1_allHold_20 rfl rfl ?_
      refine zk_aload_n (i := 1) dX1_allHold_21 rfl rfl ?_
      refine zk_aload_n (i := 2) dX1_allHold_22 rfl rfl ?_
      obtain ⟨q3, hq3, h⟩ := zk_ob h
      refine zk_callVi zY_X1_firstUnheld 6 1 [_, _] dX1_allHold_23 zl_X1_firstUnheld zc_X1_63 zk_ok1 (Nat.le_of_ble_eq_true rfl) rfl (fBurden_firstUnheldL_ok (d := 2) (Nat.le_refl _) mem  _ hq3) (Nat.lt_of_lt_of_le (by decide) hd) (Nat.le_of_ble_eq_true rfl) ?_
      refine zk_bipush dX1_allHold_26 zkb_m9 ?_
      refine zk_icmp_ne 35 dX1_allHold_28 rfl (fun c4 => ?_) (fun c4 => ?_)
      · have h := zk_if _ h c4
        refine zk_iconst dX1_allHold_35 zki_0 ?_
        exact zk_zreturn dX1_allHold_36 rfl rfl (zk_rZ (Option.some.inj h))
      · have h := zk_it _ h c4
        refine zk_iconst dX1_allHold_31 zki_1 ?_
        refine zk_goto 36 dX1_allHold_32 rfl ?_
        exact zk_zreturn dX1_allHold_36 rfl rfl (zk_rZ (Option.some.inj h))
set_option maxRecDepth 100000 in
set_option maxHeartbeats 4000000 in
theorem fForecast_galesToFall_L14_ok {d : Nat} {r : Option Value × zkM} (hd : 4 ≤ d)  : ∀ (n : Nat) (mem : zkM) (x4 : Int32) (x5 : Int32) (z : (Int32 × zkM) ⊕ (zkM)), fForecast_galesToFall_L14 n mem x4 x5 = some z → (∀ y, z = .inl y → (some (.int y.1), y.2) = r) → (∀ z', z = .inr z' → zk_J zSX d zY_X3_galesToFall (zk_R zSX r) 52 [none, none, none, none, none, none] [] z') → zk_J zSX d zY_X3_galesToFall (zk_R zSX r) 14 [some (.ref 38), some (.ref 46), none, some (.ref 6), some (.int x4), some (.int x5)] [] mem := by
  intro n
  induction n with
  | zero => intro mem x4 x5 z h; cases h
  | succ n ih =>
    intro mem x4 x5 z h hr he
    rw [fForecast_galesToFall_L14] at h
    refine zk_iload dX3_galesToFall_14 rfl ?_
    refine zk_bipush dX3_galesToFall_16 zkb_60 ?_
    refine zk_icmp_gt 52 dX3_galesToFall_18 rfl (fun c4 => ?_) (fun c4 => ?_)
    · have h := zk_it _ h c4
      exact zk_weak (zk_leN (zk_leN (zk_leN (zk_leN (zk_leN (zk_leN zk_leE)))))) (he _ (Option.some.inj h).symm)
    · have h := zk_if _ h c4
      refine zk_aload_n (i := 3) dX3_galesToFall_21 rfl rfl ?_
      refine zk_aload_n (i := 1) dX3_galesToFall_22 rfl rfl ?_
      refine zk_aload_n (i := 0) dX3_galesToFall_23 rfl rfl ?_
      refine zk_getR 38 3 0 dX3_galesToFall_24 zf_X3_12 (Nat.le_of_ble_eq_true rfl) rfl rfl ?_
      obtain ⟨q1, hq1, h⟩ := zk_ob h
      refine zk_callVi zY_X1_allHold 6 1 [_, _] dX3_galesToFall_27 zl_X1_allHold zc_X3_44 zk_ok1 (Nat.le_of_ble_eq_true rfl) rfl (fBurden_allHoldL_ok (d := 3) (Nat.le_refl _) mem  _ hq1) (Nat.lt_of_lt_of_le (by decide) hd) (Nat.le_of_ble_eq_true rfl) ?_
      refine zk_if_ne 36 dX3_galesToFall_30 rfl (fun c3 => ?_) (fun c3 => ?_)
      · have h := zk_if _ h c3
        refine zk_aload_n (i := 0) dX3_galesToFall_36 rfl rfl ?_
        refine zk_getR 38 3 0 dX3_galesToFall_37 zf_X3_12 (Nat.le_of_ble_eq_true rfl) rfl rfl ?_
        refine zk_aload_n (i := 1) dX3_galesToFall_40 rfl rfl ?_
        refine zk_iload dX3_galesToFall_41 rfl ?_
        obtain ⟨q2, hq2, h⟩ := zk_ob h
        refine zk_callVv zY_X8_blow 39 8 [_, _] dX3_galesToFall_43 zl_X8_blow zc_X3_30 zk_ok8 (Nat.le_of_ble_eq_true rfl) rfl (fScene_blowL_ok (d := 2) (Nat.le_refl _) mem _ _ hq2) (Nat.lt_of_lt_of_le (by decide) hd) (Nat.le_of_ble_eq_true rfl) ?_
        refine zk_iinc2 dX3_galesToFall_46 rfl zki_1 (Nat.le_of_ble_eq_true rfl) rfl ?_
        refine zk_goto 14 dX3_galesToFall_49 rfl ?_
        exact zk_weak (zk_leS (zk_leS (zk_leN (zk_leS (zk_leS (zk_leS zk_leE)))))) (ih q2 x4 (x5 + (1 : Int32)) _ h hr he)
      · have h := zk_it _ h c3
        refine zk_iload dX3_galesToFall_33 rfl ?_
        exact zk_ireturn dX3_galesToFall_35 rfl ((zk_rIw rfl).trans (hr _ (Option.some.inj h).symm))
set_option maxRecDepth 100000 in
set_option maxHeartbeats 4000000 in
theorem fForecast_galesToFall_ok {d : Nat} (hd : 4 ≤ d) (mem : zkM) (a4 : Int32) (z : Int32 × zkM) (h : fForecast_galesToFall mem a4 = some z) : zk_X zSX d zY_X3_galesToFall [.ref 38, .ref 46, .ref 4, .ref 6, .int a4] mem (some (.int z.1), z.2) := by
  unfold fForecast_galesToFall at h
  refine zk_meet (n := 1) (lv := [some (.ref 38), some (.ref 46), some (.ref 4), some (.ref 6), some (.int a4), none]) zpn_X3 rfl (Nat.le_of_ble_eq_true rfl) ?_
  refine zk_aload_n (i := 0) dX3_galesToFall_0 rfl rfl ?_
  refine zk_getR 38 3 0 dX3_galesToFall_1 zf_X3_12 (Nat.le_of_ble_eq_true rfl) rfl rfl ?_
  refine zk_aload_n (i := 2) dX3_galesToFall_4 rfl rfl ?_
  refine zk_getR 4 8 0 dX3_galesToFall_5 zf_X3_18 (Nat.le_of_ble_eq_true rfl) rfl rfl ?_
  obtain ⟨q1, hq1, h⟩ := zk_lt h
  refine zk_callVv zY_X8_copyFrom 39 8 [_] dX3_galesToFall_8 zl_X8_copyFrom zc_X3_22 zk_ok8 (Nat.le_of_ble_eq_true rfl) rfl (fScene_copyFromL_5_ok (d := 0) (Nat.le_refl _) mem  _ hq1) (Nat.lt_of_lt_of_le (by decide) hd) (Nat.le_of_ble_eq_true rfl) ?_
  refine zk_iconst dX3_galesToFall_11 zki_0 ?_
  refine zk_istore dX3_galesToFall_12 (Nat.le_of_ble_eq_true rfl) rfl ?_
  obtain ⟨q2, hq2, h⟩ := zk_ob h
  refine zk_weak (zk_leS (zk_leS (zk_leN (zk_leS (zk_leS (zk_leS zk_leE)))))) (fForecast_galesToFall_L14_ok hd 500 q1 a4 (0 : Int32) _ hq2 (fun y hy => ?_) (fun q3 hy => ?_))
  · subst hy; have h := zk_el h; cases h; rfl
  subst hy
  have h := zk_er h
  refine zk_bipush dX3_galesToFall_52 zkb_m9 ?_
  exact zk_ireturn dX3_galesToFall_54 rfl (zk_rIw (Option.some.inj h))
set_option maxRecDepth 100000 in
set_option maxHeartbeats 4000000 in
theorem fTp_holdsFor_ok {d : Nat} (hd : 5 ≤ d) (mem : zkM) (a1 : Int32) (z : Int32 × zkM) (h : fTp_holdsFor mem a1 = some z) : zk_X zSX d zY_X11_holdsFor [.ref 0, .int a1] mem (some (.int z.1), z.2) := by
  unfold fTp_holdsFor at h
  refine zk_meet (n := 0) (lv := [some (.ref 0), some (.int a1)]) zpn_X11 rfl (Nat.le_of_ble_eq_true rfl) ?_
  refine zk_iload_n (i := 1) dX11_holdsFor_0 rfl rfl ?_
  refine zk_callSi zY_X11_isForce [_] dX11_holdsFor_1 zl_X11_isForce zc_X11_207 (fTp_isForce_ok (d := 1) (Nat.le_refl _) mem _ _ rfl) (Nat.lt_of_lt_of_le (by decide) hd) (Nat.le_of_ble_eq_true rfl) ?_
  refine zk_if_ne 9 dX11_holdsFor_4 rfl (fun c3 => ?_) (fun c3 => ?_)
  · have h := zk_if _ h c3
    refine zk_aload_n (i := 0) dX11_holdsFor_9 rfl rfl ?_
    refine zk_getR 0 11 2 dX11_holdsFor_10 zf_X11_26 (Nat.le_of_ble_eq_true rfl) rfl rfl ?_
    refine zk_aload_n (i := 0) dX11_holdsFor_13 rfl rfl ?_
    refine zk_getR 0 11 10 dX11_holdsFor_14 zf_X11_82 (Nat.le_of_ble_eq_true rfl) rfl rfl ?_
    refine zk_aload_n (i := 0) dX11_holdsFor_17 rfl rfl ?_
    refine zk_getR 0 11 1 dX11_holdsFor_18 zf_X11_19 (Nat.le_of_ble_eq_true rfl) rfl rfl ?_
    obtain ⟨q1, hq1, h⟩ := zk_ob h
    refine zk_callVv zY_X1_weigh 6 1 [_, _] dX11_holdsFor_21 zl_X1_weigh zc_X11_133 zk_ok1 (Nat.le_of_ble_eq_true rfl) rfl (fBurden_weigh_ok (d := 1) (Nat.le_refl _) mem  _ hq1) (Nat.lt_of_lt_of_le (by decide) hd) (Nat.le_of_ble_eq_true rfl) ?_
    refine zk_aload_n (i := 0) dX11_holdsFor_24 rfl rfl ?_
    refine zk_getR 0 11 7 dX11_holdsFor_25 zf_X11_61 (Nat.le_of_ble_eq_true rfl) rfl rfl ?_
    refine zk_aload_n (i := 0) dX11_holdsFor_28 rfl rfl ?_
    refine zk_getR 0 11 10 dX11_holdsFor_29 zf_X11_82 (Nat.le_of_ble_eq_true rfl) rfl rfl ?_
    refine zk_aload_n (i := 0) dX11_holdsFor_32 rfl rfl ?_
    refine zk_getR 0 11 1 dX11_holdsFor_33 zf_X11_19 (Nat.le_of_ble_eq_true rfl) rfl rfl ?_
    refine zk_aload_n (i := 0) dX11_holdsFor_36 rfl rfl ?_
    refine zk_getR 0 11 2 dX11_holdsFor_37 zf_X11_26 (Nat.le_of_ble_eq_true rfl) rfl rfl ?_
    refine zk_iload_n (i := 1) dX11_holdsFor_40 rfl rfl ?_
    obtain ⟨q2, hq2, h⟩ := zk_ob h
    refine zk_callVi zY_X3_galesToFall 38 3 [_, _, _, _] dX11_holdsFor_41 zl_X3_galesToFall zc_X11_249 zk_ok3 (Nat.le_of_ble_eq_true rfl) rfl (fForecast_galesToFall_ok (d := 4) (Nat.le_refl _) q1 _ _ hq2) (Nat.lt_of_lt_of_le (by decide) hd) (Nat.le_of_ble_eq_true rfl) ?_
    exact zk_ireturn dX11_holdsFor_44 rfl (zk_rIw (Option.some.inj h))
  · have h := zk_it _ h c3
    refine zk_iconst dX11_holdsFor_7 zki_m1 ?_
    exact zk_ireturn dX11_holdsFor_8 rfl (zk_rIw (Option.some.inj h))
set_option maxRecDepth 100000 in
set_option maxHeartbeats 4000000 in
theorem fForecast_blowAndTell_L3_ok {d : Nat} {Z : zkZ} (hd : 3 ≤ d)  : ∀ (n : Nat) (mem : zkM) (x2 : Int32) (x3 : Int32) (x4 : Int32) (z : zkM), fForecast_blowAndTell_L3 n mem x2 x3 x4 = some z → zk_J zSX d zY_X3_blowAndTell Z 24 [some (.ref 38), some (.ref 46), none, none, none] [] z → zk_J zSX d zY_X3_blowAndTell Z 3 [some (.ref 38), some (.ref 46), some (.int x2), some (.int x3), some (.int x4)] [] mem := by
  intro n
  induction n with
  | zero => intro mem x2 x3 x4 z h; cases h
  | succ n ih =>
    intro mem x2 x3 x4 z h he
    rw [fForecast_blowAndTell_L3] at h
    refine zk_iload dX3_blowAndTell_3 rfl ?_
    refine zk_iload_n (i := 3) dX3_blowAndTell_5 rfl rfl ?_
    refine zk_icmp_ge 24 dX3_blowAndTell_6 rfl (fun c2 => ?_) (fun c2 => ?_)
    · have h := zk_it _ h c2
      cases h
      exact zk_weak (zk_leS (zk_leS (zk_leN (zk_leN (zk_leN zk_leE))))) he
    · have h := zk_if _ h c2
      refine zk_aload_n (i := 0) dX3_blowAndTell_9 rfl rfl ?_
      refine zk_getR 38 3 0 dX3_blowAndTell_10 zf_X3_12 (Nat.le_of_ble_eq_true rfl) rfl rfl ?_
      refine zk_aload_n (i := 1) dX3_blowAndTell_13 rfl rfl ?_
      refine zk_iload_n (i := 2) dX3_blowAndTell_14 rfl rfl ?_
      obtain ⟨q1, hq1, h⟩ := zk_ob h
      refine zk_callVv zY_X8_blow 39 8 [_, _] dX3_blowAndTell_15 zl_X8_blow zc_X3_30 zk_ok8 (Nat.le_of_ble_eq_true rfl) rfl (fScene_blowL_ok (d := 2) (Nat.le_refl _) mem _ _ hq1) (Nat.lt_of_lt_of_le (by decide) hd) (Nat.le_of_ble_eq_true rfl) ?_
      refine zk_iinc2 dX3_blowAndTell_18 rfl zki_1 (Nat.le_of_ble_eq_true rfl) rfl ?_
      refine zk_goto 3 dX3_blowAndTell_21 rfl ?_
      exact zk_weak (zk_leS (zk_leS (zk_leS (zk_leS (zk_leS zk_leE))))) (ih q1 x2 x3 (x4 + (1 : Int32)) _ h he)
set_option maxRecDepth 100000 in
set_option maxHeartbeats 4000000 in
theorem fForecast_blowAndTell_ok {d : Nat} (hd : 3 ≤ d) (mem : zkM) (a2 : Int32) (a3 : Int32) (z : Int32 × zkM) (h : fForecast_blowAndTell mem a2 a3 = some z) : zk_X zSX d zY_X3_blowAndTell [.ref 38, .ref 46, .int a2, .int a3] mem (some (.int z.1), z.2) := by
  unfold fForecast_blowAndTell at h
  refine zk_meet (n := 1) (lv := [some (.ref 38), some (.ref 46), some (.int a2), some (.int a3), none]) zpn_X3 rfl (Nat.le_of_ble_eq_true rfl) ?_
  refine zk_iconst dX3_blowAndTell_0 zki_0 ?_
  refine zk_istore dX3_blowAndTell_1 (Nat.le_of_ble_eq_true rfl) rfl ?_
  obtain ⟨q1, hq1, h⟩ := zk_ob h
  refine zk_weak (zk_leS (zk_leS (zk_leS (zk_leS (zk_leS zk_leE))))) (fForecast_blowAndTell_L3_ok hd 500 mem a2 a3 (0 : Int32) _ hq1 ?_)
  refine zk_aload_n (i := 0) dX3_blowAndTell_24 rfl rfl ?_
  refine zk_getR 38 3 0 dX3_blowAndTell_25 zf_X3_12 (Nat.le_of_ble_eq_true rfl) rfl rfl ?_
  refine zk_aload_n (i := 1) dX3_blowAndTell_28 rfl rfl ?_
  obtain ⟨q2, hq2, h⟩ := zk_ob h
  refine zk_callVi zY_X8_outBits 39 8 [_] dX3_blowAndTell_29 zl_X8_outBits zc_X3_26 zk_ok8 (Nat.le_of_ble_eq_true rfl) rfl (fScene_outBitsL_ok (d := 1) (Nat.le_refl _) q1  _ hq2) (Nat.lt_of_lt_of_le (by decide) hd) (Nat.le_of_ble_eq_true rfl) ?_
  exact zk_ireturn dX3_blowAndTell_32 rfl (zk_rIw (Option.some.inj h))
