set_option maxRecDepth 100000 in
set_option maxHeartbeats 4000000 in
theorem fLaying_ofFirst_ok {d : Nat} (hd : 3 ≤ d) (mem : zkM) (a2 : Int32) (z : Int32) (h : fLaying_ofFirst mem a2 = some z) : zk_X zSX d zY_X4_ofFirst [.ref 44, .ref 46, .int a2] mem (some (.int z), mem) := by
  unfold fLaying_ofFirst at h
  refine zk_meet (n := 3) (lv := [some (.ref 44), some (.ref 46), some (.int a2), none, none, none]) zpn_X4 rfl (Nat.le_of_ble_eq_true rfl) ?_
  refine zk_iconst dX4_ofFirst_0 zki_0 ?_
  refine zk_istore_n (i := 3) dX4_ofFirst_1 rfl (Nat.le_of_ble_eq_true rfl) rfl ?_
  refine zk_bipush dX4_ofFirst_2 zkb_m9 ?_
  refine zk_istore dX4_ofFirst_4 (Nat.le_of_ble_eq_true rfl) rfl ?_
  refine zk_iconst dX4_ofFirst_6 zki_0 ?_
  refine zk_istore dX4_ofFirst_7 (Nat.le_of_ble_eq_true rfl) rfl ?_
  obtain ⟨q1, hq1, h⟩ := zk_ob h
  refine zk_weak (zk_leN (zk_leS (zk_leS (zk_leS (zk_leS (zk_leS zk_leE)))))) (fLaying_ofFirst_L9_ok hd 500 mem a2 (0 : Int32) (-9 : Int32) (0 : Int32) _ hq1 (fun y hy => ?_) (fun q2 hy => ?_))
  · subst hy; have h := zk_el h; cases h; rfl
  subst hy
  have h := zk_er h
  refine zk_iload dX4_ofFirst_54 rfl ?_
  exact zk_ireturn dX4_ofFirst_56 rfl (zk_rI (Option.some.inj h))
set_option maxRecDepth 100000 in
set_option maxHeartbeats 4000000 in
theorem fLaying_howMany_L9_ok {d : Nat} {Z : zkZ} (hd : 2 ≤ d)  : ∀ (n : Nat) (mem : zkM) (x2 : Int32) (x3 : Int32) (z : zkM), fLaying_howMany_L9 n mem x2 x3 = some z → zk_J zSX d zY_X4_howMany Z 35 [some (.ref 44), some (.ref 46), some (.int x2), none, none, none] [] z → zk_J zSX d zY_X4_howMany Z 9 [some (.ref 44), some (.ref 46), some (.int x2), some (.int x3), none, none] [] mem := by
  intro n
  induction n with
  | zero => intro mem x2 x3 z h; cases h
  | succ n ih =>
    intro mem x2 x3 z h he
    rw [fLaying_howMany_L9] at h
    refine zk_iload_n (i := 3) dX4_howMany_9 rfl rfl ?_
    refine zk_iload_n (i := 2) dX4_howMany_10 rfl rfl ?_
    refine zk_icmp_ge 35 dX4_howMany_11 rfl (fun c5 => ?_) (fun c5 => ?_)
    · have h := zk_it _ h c5
      cases h
      exact zk_weak (zk_leS (zk_leS (zk_leS (zk_leN (zk_leN (zk_leN zk_leE)))))) he
    · have h := zk_if _ h c5
      refine zk_aload_n (i := 0) dX4_howMany_14 rfl rfl ?_
      refine zk_getR 44 4 0 dX4_howMany_15 zf_X4_9 (Nat.le_of_ble_eq_true rfl) rfl rfl ?_
      refine zk_iload_n (i := 3) dX4_howMany_18 rfl rfl ?_
      refine zk_iload_n (i := 3) dX4_howMany_19 rfl rfl ?_
      obtain ⟨q1, hq1, h⟩ := zk_lt h
      have Jq1 : zk_J zSX d zY_X4_howMany Z 28 [some (.ref 44), some (.ref 46), some (.int x2), some (.int x3), none, none] [.int (zk_b q1), .int x3, .ref 45] mem := by
        obtain ⟨b3, h⟩ := zk_gd h
        obtain ⟨m4, em4, h⟩ := zk_lt h
        refine zk_iastore' 45 64 dX4_howMany_28 (Nat.le_of_ble_eq_true rfl) rfl (zk_inb_in b3) em4 ?_
        refine zk_iinc2 dX4_howMany_29 rfl zki_1 (Nat.le_of_ble_eq_true rfl) rfl ?_
        refine zk_goto 9 dX4_howMany_32 rfl ?_
        exact zk_weak (zk_leS (zk_leS (zk_leS (zk_leS (zk_leN (zk_leN zk_leE)))))) (ih m4 x2 (x3 + (1 : Int32)) _ h he)
      have h := hq1
      clear hq1
      refine zk_if_ne 27 dX4_howMany_20 rfl (fun c2 => ?_) (fun c2 => ?_)
      · have h := zk_if _ h c2
        refine zk_iconst dX4_howMany_27 zki_0 ?_
        subst h
        exact zk_weak (zk_leS (zk_leS (zk_leS (zk_leS (zk_leN (zk_leN zk_leE)))))) Jq1
      · have h := zk_it _ h c2
        refine zk_iconst dX4_howMany_23 zki_1 ?_
        refine zk_goto 28 dX4_howMany_24 rfl ?_
        subst h
        exact zk_weak (zk_leS (zk_leS (zk_leS (zk_leS (zk_leN (zk_leN zk_leE)))))) Jq1
set_option maxRecDepth 100000 in
set_option maxHeartbeats 4000000 in
theorem fLaying_howMany_L52_ok {d : Nat} {Z : zkZ} (hd : 2 ≤ d)  : ∀ (n : Nat) (mem : zkM) (x2 : Int32) (x3 : Int32) (x4 : Int32) (x5 : Int32) (z : zkM), fLaying_howMany_L52 n mem x3 x4 x5 = some z → zk_J zSX d zY_X4_howMany Z 99 [some (.ref 44), some (.ref 46), some (.int x2), some (.int x3), none, none] [] z → zk_J zSX d zY_X4_howMany Z 52 [some (.ref 44), some (.ref 46), some (.int x2), some (.int x3), some (.int x4), some (.int x5)] [] mem := by
  intro n
  induction n with
  | zero => intro mem x2 x3 x4 x5 z h; cases h
  | succ n ih =>
    intro mem x2 x3 x4 x5 z h he
    rw [fLaying_howMany_L52] at h
    refine zk_iload dX4_howMany_52 rfl ?_
    refine zk_aload_n (i := 1) dX4_howMany_54 rfl rfl ?_
    refine zk_getI 46 10 1 dX4_howMany_55 zf_X4_15 (Nat.le_of_ble_eq_true rfl) rfl rfl ?_
    refine zk_icmp_ge 99 dX4_howMany_58 rfl (fun c8 => ?_) (fun c8 => ?_)
    · have h := zk_it _ h c8
      cases h
      exact zk_weak (zk_leS (zk_leS (zk_leS (zk_leS (zk_leN (zk_leN zk_leE)))))) he
    · have h := zk_if _ h c8
      refine zk_aload_n (i := 1) dX4_howMany_61 rfl rfl ?_
      refine zk_iload_n (i := 3) dX4_howMany_62 rfl rfl ?_
      refine zk_iload dX4_howMany_63 rfl ?_
      refine zk_iload dX4_howMany_65 rfl ?_
      obtain ⟨q1, hq1, h⟩ := zk_ob h
      refine zk_callSi zY_X4_canFollow [_, _, _, _] dX4_howMany_67 zl_X4_canFollow zc_X4_25 (fLaying_canFollow_ok (d := 1) (Nat.le_refl _) mem _ _ _ _ hq1) (Nat.lt_of_lt_of_le (by decide) hd) (Nat.le_of_ble_eq_true rfl) ?_
      obtain ⟨q2, hq2, h⟩ := zk_ob h
      have Jq2 : zk_J zSX d zY_X4_howMany Z 93 [some (.ref 44), some (.ref 46), some (.int x2), some (.int x3), some (.int x4), some (.int x5)] [] q2 := by
        refine zk_iinc2 dX4_howMany_93 rfl zki_1 (Nat.le_of_ble_eq_true rfl) rfl ?_
        refine zk_goto 52 dX4_howMany_96 rfl ?_
        exact zk_weak (zk_leS (zk_leS (zk_leS (zk_leS (zk_leS (zk_leS zk_leE)))))) (ih q2 x2 x3 x4 (x5 + (1 : Int32)) _ h he)
      have h := hq2
      clear hq2
      refine zk_if_eq 93 dX4_howMany_70 rfl (fun c7 => ?_) (fun c7 => ?_)
      · have h := zk_it _ h c7
        cases h
        exact zk_weak (zk_leS (zk_leS (zk_leS (zk_leS (zk_leS (zk_leS zk_leE)))))) Jq2
      · have h := zk_if _ h c7
        refine zk_aload_n (i := 0) dX4_howMany_73 rfl rfl ?_
        refine zk_getR 44 4 0 dX4_howMany_74 zf_X4_9 (Nat.le_of_ble_eq_true rfl) rfl rfl ?_
        refine zk_iload_n (i := 3) dX4_howMany_77 rfl rfl ?_
        refine zk_iconst dX4_howMany_78 zki_1 ?_
        refine zk_iload dX4_howMany_79 rfl ?_
        refine zk_ishl dX4_howMany_81 ?_
        refine zk_ior dX4_howMany_82 ?_
        refine zk_dup2 dX4_howMany_83 rfl rfl ?_
        obtain ⟨b3, h⟩ := zk_gd h
        refine zk_iaload 45 64 dX4_howMany_84 (Nat.le_of_ble_eq_true rfl) rfl (zk_inb_in b3) ?_
        refine zk_aload_n (i := 0) dX4_howMany_85 rfl rfl ?_
        refine zk_getR 44 4 0 dX4_howMany_86 zf_X4_9 (Nat.le_of_ble_eq_true rfl) rfl rfl ?_
        refine zk_iload_n (i := 3) dX4_howMany_89 rfl rfl ?_
        obtain ⟨b4, h⟩ := zk_gd h
        refine zk_iaload 45 64 dX4_howMany_90 (Nat.le_of_ble_eq_true rfl) rfl (zk_inb_in b4) ?_
        refine zk_iadd dX4_howMany_91 ?_
        obtain ⟨b5, h⟩ := zk_gd h
        obtain ⟨m6, em6, h⟩ := zk_lt h
        refine zk_iastore' 45 64 dX4_howMany_92 (Nat.le_of_ble_eq_true rfl) rfl (zk_inb_in b5) em6 ?_
        cases h
        exact zk_weak (zk_leS (zk_leS (zk_leS (zk_leS (zk_leS (zk_leS zk_leE)))))) Jq2
set_option maxRecDepth 100000 in
set_option maxHeartbeats 4000000 in
theorem fLaying_howMany_L37_ok {d : Nat} {Z : zkZ} (hd : 2 ≤ d)  : ∀ (n : Nat) (mem : zkM) (x2 : Int32) (x3 : Int32) (z : zkM), fLaying_howMany_L37 n mem x2 x3 = some z → zk_J zSX d zY_X4_howMany Z 105 [some (.ref 44), none, some (.int x2), none, none, none] [] z → zk_J zSX d zY_X4_howMany Z 37 [some (.ref 44), some (.ref 46), some (.int x2), some (.int x3), none, none] [] mem := by
  intro n
  induction n with
  | zero => intro mem x2 x3 z h; cases h
  | succ n ih =>
    intro mem x2 x3 z h he
    rw [fLaying_howMany_L37] at h
    refine zk_iload_n (i := 3) dX4_howMany_37 rfl rfl ?_
    refine zk_iload_n (i := 2) dX4_howMany_38 rfl rfl ?_
    refine zk_icmp_ge 105 dX4_howMany_39 rfl (fun c3 => ?_) (fun c3 => ?_)
    · have h := zk_it _ h c3
      cases h
      exact zk_weak (zk_leS (zk_leN (zk_leS (zk_leN (zk_leN (zk_leN zk_leE)))))) he
    · have h := zk_if _ h c3
      refine zk_aload_n (i := 1) dX4_howMany_42 rfl rfl ?_
      refine zk_iload_n (i := 3) dX4_howMany_43 rfl rfl ?_
      obtain ⟨q1, hq1, h⟩ := zk_ob h
      refine zk_callSi zY_X4_reachedBy [_, _] dX4_howMany_44 zl_X4_reachedBy zc_X4_21 (fLaying_reachedBy_ok (d := 1) (Nat.le_refl _) mem _ _ hq1) (Nat.lt_of_lt_of_le (by decide) hd) (Nat.le_of_ble_eq_true rfl) ?_
      refine zk_istore dX4_howMany_47 (Nat.le_of_ble_eq_true rfl) rfl ?_
      refine zk_iconst dX4_howMany_49 zki_0 ?_
      refine zk_istore dX4_howMany_50 (Nat.le_of_ble_eq_true rfl) rfl ?_
      obtain ⟨q2, hq2, h⟩ := zk_ob h
      refine zk_weak (zk_leS (zk_leS (zk_leS (zk_leS (zk_leS (zk_leS zk_leE)))))) (fLaying_howMany_L52_ok hd 500 mem x2 x3 q1 (0 : Int32) _ hq2 ?_)
      refine zk_iinc2 dX4_howMany_99 rfl zki_1 (Nat.le_of_ble_eq_true rfl) rfl ?_
      refine zk_goto 37 dX4_howMany_102 rfl ?_
      exact zk_weak (zk_leS (zk_leS (zk_leS (zk_leS (zk_leN (zk_leN zk_leE)))))) (ih q2 x2 (x3 + (1 : Int32)) _ h he)
set_option maxRecDepth 100000 in
set_option maxHeartbeats 4000000 in
theorem fLaying_howMany_ok {d : Nat} (hd : 2 ≤ d) (mem : zkM) (z : Int32 × zkM) (h : fLaying_howMany mem = some z) : zk_X zSX d zY_X4_howMany [.ref 44, .ref 46] mem (some (.int z.1), z.2) := by
  unfold fLaying_howMany at h
  refine zk_meet (n := 4) (lv := [some (.ref 44), some (.ref 46), none, none, none, none]) zpn_X4 rfl (Nat.le_of_ble_eq_true rfl) ?_
  refine zk_iconst dX4_howMany_0 zki_1 ?_
  refine zk_aload_n (i := 1) dX4_howMany_1 rfl rfl ?_
  refine zk_getI 46 10 1 dX4_howMany_2 zf_X4_15 (Nat.le_of_ble_eq_true rfl) rfl rfl ?_
  refine zk_ishl dX4_howMany_5 ?_
  obtain ⟨v1, ev1, h⟩ := zk_lt h
  refine zk_istore_n' (i := 2) dX4_howMany_6 rfl ev1 (Nat.le_of_ble_eq_true rfl) rfl ?_
  refine zk_iconst dX4_howMany_7 zki_0 ?_
  refine zk_istore_n (i := 3) dX4_howMany_8 rfl (Nat.le_of_ble_eq_true rfl) rfl ?_
  obtain ⟨q2, hq2, h⟩ := zk_ob h
  refine zk_weak (zk_leS (zk_leS (zk_leS (zk_leS (zk_leN (zk_leN zk_leE)))))) (fLaying_howMany_L9_ok hd 500 mem v1 (0 : Int32) _ hq2 ?_)
  refine zk_iconst dX4_howMany_35 zki_0 ?_
  refine zk_istore_n (i := 3) dX4_howMany_36 rfl (Nat.le_of_ble_eq_true rfl) rfl ?_
  obtain ⟨q3, hq3, h⟩ := zk_ob h
  refine zk_weak (zk_leS (zk_leS (zk_leS (zk_leS (zk_leN (zk_leN zk_leE)))))) (fLaying_howMany_L37_ok hd 500 q2 v1 (0 : Int32) _ hq3 ?_)
  refine zk_aload_n (i := 0) dX4_howMany_105 rfl rfl ?_
  refine zk_getR 44 4 0 dX4_howMany_106 zf_X4_9 (Nat.le_of_ble_eq_true rfl) rfl rfl ?_
  refine zk_iload_n (i := 2) dX4_howMany_109 rfl rfl ?_
  refine zk_iconst dX4_howMany_110 zki_1 ?_
  refine zk_isub dX4_howMany_111 ?_
  obtain ⟨b4, h⟩ := zk_gd h
  refine zk_iaload 45 64 dX4_howMany_112 (Nat.le_of_ble_eq_true rfl) rfl (zk_inb_in b4) ?_
  exact zk_ireturn dX4_howMany_113 rfl (zk_rIw (Option.some.inj h))
set_option maxRecDepth 100000 in
set_option maxHeartbeats 4000000 in
theorem fTp_orders_ok {d : Nat} (hd : 4 ≤ d) (mem : zkM) (a1 : Int32) (z : Int32 × zkM) (h : fTp_orders mem a1 = some z) : zk_X zSX d zY_X11_orders [.ref 0, .int a1] mem (some (.int z.1), z.2) := by
  unfold fTp_orders at h
  refine zk_meet (n := 0) (lv := [some (.ref 0), some (.int a1)]) zpn_X11 rfl (Nat.le_of_ble_eq_true rfl) ?_
  refine zk_iload_n (i := 1) dX11_orders_0 rfl rfl ?_
  refine zk_iconst dX11_orders_1 zki_m1 ?_
  refine zk_icmp_ge 7 dX11_orders_2 rfl (fun c7 => ?_) (fun c7 => ?_)
  · have h := zk_it _ h c7
    refine zk_iload_n (i := 1) dX11_orders_7 rfl rfl ?_
    refine zk_iconst dX11_orders_8 zki_m1 ?_
    refine zk_icmp_ne 24 dX11_orders_9 rfl (fun c6 => ?_) (fun c6 => ?_)
    · have h := zk_if _ h c6
      refine zk_aload_n (i := 0) dX11_orders_24 rfl rfl ?_
      refine zk_getR 0 11 9 dX11_orders_25 zf_X11_75 (Nat.le_of_ble_eq_true rfl) rfl rfl ?_
      refine zk_aload_n (i := 0) dX11_orders_28 rfl rfl ?_
      refine zk_getR 0 11 10 dX11_orders_29 zf_X11_82 (Nat.le_of_ble_eq_true rfl) rfl rfl ?_
      obtain ⟨q1, hq1, h⟩ := zk_ob h
      refine zk_callVi zY_X4_neverLaid 44 4 [_] dX11_orders_32 zl_X4_neverLaid zc_X11_280 zk_ok4 (Nat.le_of_ble_eq_true rfl) rfl (fLaying_neverLaid_ok (d := 3) (Nat.le_refl _) mem  _ hq1) (Nat.lt_of_lt_of_le (by decide) hd) (Nat.le_of_ble_eq_true rfl) ?_
      refine zk_if_eq 41 dX11_orders_35 rfl (fun c4 => ?_) (fun c4 => ?_)
      · have h := zk_it _ h c4
        refine zk_iload_n (i := 1) dX11_orders_41 rfl rfl ?_
        refine zk_aload_n (i := 0) dX11_orders_42 rfl rfl ?_
        refine zk_getR 0 11 10 dX11_orders_43 zf_X11_82 (Nat.le_of_ble_eq_true rfl) rfl rfl ?_
        refine zk_getI 46 10 1 dX11_orders_46 zf_X11_283 (Nat.le_of_ble_eq_true rfl) rfl rfl ?_
        refine zk_icmp_ge 67 dX11_orders_49 rfl (fun c3 => ?_) (fun c3 => ?_)
        · have h := zk_it _ h c3
          refine zk_bipush dX11_orders_67 zkb_m5 ?_
          exact zk_ireturn dX11_orders_69 rfl (zk_rIw (Option.some.inj h))
        · have h := zk_if _ h c3
          refine zk_aload_n (i := 0) dX11_orders_52 rfl rfl ?_
          refine zk_getR 0 11 9 dX11_orders_53 zf_X11_75 (Nat.le_of_ble_eq_true rfl) rfl rfl ?_
          refine zk_aload_n (i := 0) dX11_orders_56 rfl rfl ?_
          refine zk_getR 0 11 10 dX11_orders_57 zf_X11_82 (Nat.le_of_ble_eq_true rfl) rfl rfl ?_
          refine zk_iload_n (i := 1) dX11_orders_60 rfl rfl ?_
          obtain ⟨q2, hq2, h⟩ := zk_ob h
          refine zk_callVi zY_X4_ofFirst 44 4 [_, _] dX11_orders_61 zl_X4_ofFirst zc_X11_286 zk_ok4 (Nat.le_of_ble_eq_true rfl) rfl (fLaying_ofFirst_ok (d := 3) (Nat.le_refl _) mem _ _ hq2) (Nat.lt_of_lt_of_le (by decide) hd) (Nat.le_of_ble_eq_true rfl) ?_
          refine zk_goto 69 dX11_orders_64 rfl ?_
          exact zk_ireturn dX11_orders_69 rfl (zk_rIw (Option.some.inj h))
      · have h := zk_if _ h c4
        refine zk_bipush dX11_orders_38 zkb_m9 ?_
        exact zk_ireturn dX11_orders_40 rfl (zk_rIw (Option.some.inj h))
    · have h := zk_it _ h c6
      refine zk_aload_n (i := 0) dX11_orders_12 rfl rfl ?_
      refine zk_getR 0 11 9 dX11_orders_13 zf_X11_75 (Nat.le_of_ble_eq_true rfl) rfl rfl ?_
      refine zk_aload_n (i := 0) dX11_orders_16 rfl rfl ?_
      refine zk_getR 0 11 10 dX11_orders_17 zf_X11_82 (Nat.le_of_ble_eq_true rfl) rfl rfl ?_
      obtain ⟨q5, hq5, h⟩ := zk_ob h
      refine zk_callVi zY_X4_howMany 44 4 [_] dX11_orders_20 zl_X4_howMany zc_X11_279 zk_ok4 (Nat.le_of_ble_eq_true rfl) rfl (fLaying_howMany_ok (d := 2) (Nat.le_refl _) mem  _ hq5) (Nat.lt_of_lt_of_le (by decide) hd) (Nat.le_of_ble_eq_true rfl) ?_
      exact zk_ireturn dX11_orders_23 rfl (zk_rIw (Option.some.inj h))
  · have h := zk_if _ h c7
    refine zk_iconst dX11_orders_5 zki_m1 ?_
    exact zk_ireturn dX11_orders_6 rfl (zk_rIw (Option.some.inj h))
set_option maxRecDepth 100000 in
set_option maxHeartbeats 4000000 in
theorem fTp_barred_ok {d : Nat} (hd : 4 ≤ d) (mem : zkM) (z : Int32) (h : fTp_barred mem = some z) : zk_X zSX d zY_X11_barred [.ref 0] mem (some (.int z), mem) := by
  unfold fTp_barred at h
  refine zk_meet (n := 0) (lv := [some (.ref 0)]) zpn_X11 rfl (Nat.le_of_ble_eq_true rfl) ?_
  refine zk_aload_n (i := 0) dX11_barred_0 rfl rfl ?_
  refine zk_getR 0 11 9 dX11_barred_1 zf_X11_75 (Nat.le_of_ble_eq_true rfl) rfl rfl ?_
  refine zk_aload_n (i := 0) dX11_barred_4 rfl rfl ?_
  refine zk_getR 0 11 10 dX11_barred_5 zf_X11_82 (Nat.le_of_ble_eq_true rfl) rfl rfl ?_
  obtain ⟨q1, hq1, h⟩ := zk_ob h
  refine zk_callVi zY_X4_neverLaid 44 4 [_] dX11_barred_8 zl_X4_neverLaid zc_X11_280 zk_ok4 (Nat.le_of_ble_eq_true rfl) rfl (fLaying_neverLaid_ok (d := 3) (Nat.le_refl _) mem  _ hq1) (Nat.lt_of_lt_of_le (by decide) hd) (Nat.le_of_ble_eq_true rfl) ?_
  exact zk_ireturn dX11_barred_11 rfl (zk_rI (Option.some.inj h))
set_option maxRecDepth 100000 in
set_option maxHeartbeats 4000000 in
theorem fTree_weightOf_L4_ok {d : Nat} {Z : zkZ} (hd : 0 ≤ d)  : ∀ (n : Nat) (mem : zkM) (x1 : Int32) (x2 : Int32) (x3 : Int32) (z : Int32), fTree_weightOf_L4 n mem x1 x2 x3 = some z → zk_J zSX d zY_X10_weightOf Z 35 [none, none, some (.int z), none] [] mem → zk_J zSX d zY_X10_weightOf Z 4 [some (.ref 46), some (.int x1), some (.int x2), some (.int x3)] [] mem := by
  intro n
  induction n with
  | zero => intro mem x1 x2 x3 z h; cases h
  | succ n ih =>
    intro mem x1 x2 x3 z h he
    rw [fTree_weightOf_L4] at h
    refine zk_iload_n (i := 3) dX10_weightOf_4 rfl rfl ?_
    refine zk_aload_n (i := 0) dX10_weightOf_5 rfl rfl ?_
    refine zk_getI 46 10 2 dX10_weightOf_6 zf_X10_18 (Nat.le_of_ble_eq_true rfl) rfl rfl ?_
    refine zk_icmp_ge 35 dX10_weightOf_9 rfl (fun c5 => ?_) (fun c5 => ?_)
    · have h := zk_it _ h c5
      cases h
      exact zk_weak (zk_leN (zk_leN (zk_leS (zk_leN zk_leE)))) he
    · have h := zk_if _ h c5
      refine zk_iload_n (i := 1) dX10_weightOf_12 rfl rfl ?_
      refine zk_iload_n (i := 3) dX10_weightOf_13 rfl rfl ?_
      refine zk_ishr dX10_weightOf_14 ?_
      refine zk_iconst dX10_weightOf_15 zki_1 ?_
      refine zk_iand dX10_weightOf_16 ?_
      obtain ⟨q1, hq1, h⟩ := zk_ob h
      have Jq1 : zk_J zSX d zY_X10_weightOf Z 29 [some (.ref 46), some (.int x1), some (.int q1), some (.int x3)] [] mem := by
        refine zk_iinc2 dX10_weightOf_29 rfl zki_1 (Nat.le_of_ble_eq_true rfl) rfl ?_
        refine zk_goto 4 dX10_weightOf_32 rfl ?_
        exact zk_weak (zk_leS (zk_leS (zk_leS (zk_leS zk_leE)))) (ih mem x1 q1 (x3 + (1 : Int32)) _ h he)
      have h := hq1
      clear hq1
      refine zk_if_eq 29 dX10_weightOf_17 rfl (fun c4 => ?_) (fun c4 => ?_)
      · have h := zk_it _ h c4
        cases h
        exact zk_weak (zk_leS (zk_leS (zk_leS (zk_leS zk_leE)))) Jq1
      · have h := zk_if _ h c4
        refine zk_iload_n (i := 2) dX10_weightOf_20 rfl rfl ?_
        refine zk_aload_n (i := 0) dX10_weightOf_21 rfl rfl ?_
        refine zk_getR 46 10 9 dX10_weightOf_22 zf_X10_40 (Nat.le_of_ble_eq_true rfl) rfl rfl ?_
        refine zk_iload_n (i := 3) dX10_weightOf_25 rfl rfl ?_
        obtain ⟨b2, h⟩ := zk_gd h
        refine zk_iaload 53 5 dX10_weightOf_26 (Nat.le_of_ble_eq_true rfl) rfl (zk_inb_in b2) ?_
        refine zk_iadd dX10_weightOf_27 ?_
        obtain ⟨v3, ev3, h⟩ := zk_lt h
        refine zk_istore_n' (i := 2) dX10_weightOf_28 rfl ev3 (Nat.le_of_ble_eq_true rfl) rfl ?_
        cases h
        exact zk_weak (zk_leS (zk_leS (zk_leS (zk_leS zk_leE)))) Jq1
set_option maxRecDepth 100000 in
set_option maxHeartbeats 4000000 in
theorem fTree_weightOf_ok {d : Nat} (hd : 0 ≤ d) (mem : zkM) (a1 : Int32) (z : Int32) (h : fTree_weightOf mem a1 = some z) : zk_X zSX d zY_X10_weightOf [.ref 46, .int a1] mem (some (.int z), mem) := by
  unfold fTree_weightOf at h
  refine zk_meet (n := 2) (lv := [some (.ref 46), some (.int a1), none, none]) zpn_X10 rfl (Nat.le_of_ble_eq_true rfl) ?_
  refine zk_iconst dX10_weightOf_0 zki_0 ?_
  refine zk_istore_n (i := 2) dX10_weightOf_1 rfl (Nat.le_of_ble_eq_true rfl) rfl ?_
  refine zk_iconst dX10_weightOf_2 zki_0 ?_
  refine zk_istore_n (i := 3) dX10_weightOf_3 rfl (Nat.le_of_ble_eq_true rfl) rfl ?_
  obtain ⟨q1, hq1, h⟩ := zk_ob h
  refine zk_weak (zk_leS (zk_leS (zk_leS (zk_leS zk_leE)))) (fTree_weightOf_L4_ok hd 500 mem a1 (0 : Int32) (0 : Int32) _ hq1 ?_)
  refine zk_iload_n (i := 2) dX10_weightOf_35 rfl rfl ?_
  exact zk_ireturn dX10_weightOf_36 rfl (zk_rI (Option.some.inj h))
set_option maxRecDepth 100000 in
set_option maxHeartbeats 4000000 in
theorem fTp_fewestPulling_L10_ok {d : Nat} {Z : zkZ} (hd : 1 ≤ d)  : ∀ (n : Nat) (mem : zkM) (x1 : Int32) (x2 : Int32) (x3 : Int32) (x4 : Int32) (x5 : Int32) (z : Int32), fTp_fewestPulling_L10 n mem x1 x2 x3 x4 x5 = some z → zk_J zSX d zY_X11_fewestPulling Z 71 [none, none, none, some (.int z), none, none, none] [] mem → zk_J zSX d zY_X11_fewestPulling Z 10 [some (.ref 0), some (.int x1), some (.int x2), some (.int x3), some (.int x4), some (.int x5), none] [] mem := by
  intro n
  induction n with
  | zero => intro mem x1 x2 x3 x4 x5 z h; cases h
  | succ n ih =>
    intro mem x1 x2 x3 x4 x5 z h he
    rw [fTp_fewestPulling_L10] at h
    refine zk_iload dX11_fewestPulling_10 rfl ?_
    refine zk_iconst dX11_fewestPulling_12 zki_1 ?_
    refine zk_aload_n (i := 0) dX11_fewestPulling_13 rfl rfl ?_
    refine zk_getR 0 11 10 dX11_fewestPulling_14 zf_X11_82 (Nat.le_of_ble_eq_true rfl) rfl rfl ?_
    refine zk_getI 46 10 2 dX11_fewestPulling_17 zf_X11_336 (Nat.le_of_ble_eq_true rfl) rfl rfl ?_
    refine zk_ishl dX11_fewestPulling_20 ?_
    refine zk_icmp_ge 71 dX11_fewestPulling_21 rfl (fun c6 => ?_) (fun c6 => ?_)
    · have h := zk_it _ h c6
      cases h
      exact zk_weak (zk_leN (zk_leN (zk_leN (zk_leS (zk_leN (zk_leN (zk_leN zk_leE))))))) he
    · have h := zk_if _ h c6
      refine zk_aload_n (i := 0) dX11_fewestPulling_24 rfl rfl ?_
      refine zk_getR 0 11 10 dX11_fewestPulling_25 zf_X11_82 (Nat.le_of_ble_eq_true rfl) rfl rfl ?_
      refine zk_iload dX11_fewestPulling_28 rfl ?_
      obtain ⟨q1, hq1, h⟩ := zk_ob h
      refine zk_callVi zY_X10_weightOf 46 10 [_] dX11_fewestPulling_30 zl_X10_weightOf zc_X11_339 zk_ok10 (Nat.le_of_ble_eq_true rfl) rfl (fTree_weightOf_ok (d := 0) (Nat.le_refl _) mem _ _ hq1) (Nat.lt_of_lt_of_le (by decide) hd) (Nat.le_of_ble_eq_true rfl) ?_
      refine zk_istore dX11_fewestPulling_33 (Nat.le_of_ble_eq_true rfl) rfl ?_
      refine zk_iload dX11_fewestPulling_35 rfl ?_
      refine zk_iload_n (i := 1) dX11_fewestPulling_37 rfl rfl ?_
      refine zk_iload_n (i := 2) dX11_fewestPulling_38 rfl rfl ?_
      refine zk_callSi zY_X11_within [_, _, _] dX11_fewestPulling_39 zl_X11_within zc_X11_93 (fTp_within_ok (d := 0) (Nat.le_refl _) mem _ _ _ _ rfl) (Nat.lt_of_lt_of_le (by decide) hd) (Nat.le_of_ble_eq_true rfl) ?_
      obtain ⟨q2, hq2, h⟩ := zk_lt h
      have Jq2 : zk_J zSX d zY_X11_fewestPulling Z 65 [some (.ref 0), some (.int x1), some (.int x2), some (.int q2.1), some (.int q2.2), some (.int x5), none] [] mem := by
        refine zk_iinc2 dX11_fewestPulling_65 rfl zki_1 (Nat.le_of_ble_eq_true rfl) rfl ?_
        refine zk_goto 10 dX11_fewestPulling_68 rfl ?_
        exact zk_weak (zk_leS (zk_leS (zk_leS (zk_leS (zk_leS (zk_leS (zk_leN zk_leE))))))) (ih mem x1 x2 q2.1 q2.2 (x5 + (1 : Int32)) _ h he)
      have h := hq2
      clear hq2
      refine zk_if_eq 65 dX11_fewestPulling_42 rfl (fun c5 => ?_) (fun c5 => ?_)
      · have h := zk_it _ h c5
        subst h
        exact zk_weak (zk_leS (zk_leS (zk_leS (zk_leS (zk_leS (zk_leS (zk_leN zk_leE))))))) Jq2
      · have h := zk_if _ h c5
        refine zk_iload dX11_fewestPulling_45 rfl ?_
        refine zk_callSi zY_J6_bitCount_0f7a4 [_] dX11_fewestPulling_47 zl_J6_bitCount_0f7a4 zc_X11_342 (fJint_bitCount_ok (d := 0) (Nat.le_refl _) mem _ _ rfl) (Nat.lt_of_lt_of_le (by decide) hd) (Nat.le_of_ble_eq_true rfl) ?_
        refine zk_iload dX11_fewestPulling_50 rfl ?_
        refine zk_icmp_ge 65 dX11_fewestPulling_52 rfl (fun c4 => ?_) (fun c4 => ?_)
        · have h := zk_it _ h c4
          subst h
          exact zk_weak (zk_leS (zk_leS (zk_leS (zk_leS (zk_leS (zk_leS (zk_leN zk_leE))))))) Jq2
        · have h := zk_if _ h c4
          refine zk_iload dX11_fewestPulling_55 rfl ?_
          refine zk_callSi zY_J6_bitCount_0f7a4 [_] dX11_fewestPulling_57 zl_J6_bitCount_0f7a4 zc_X11_342 (fJint_bitCount_ok (d := 0) (Nat.le_refl _) mem _ _ rfl) (Nat.lt_of_lt_of_le (by decide) hd) (Nat.le_of_ble_eq_true rfl) ?_
          obtain ⟨v3, ev3, h⟩ := zk_lt h
          refine zk_istore' dX11_fewestPulling_60 ev3 (Nat.le_of_ble_eq_true rfl) rfl ?_
          refine zk_iload dX11_fewestPulling_62 rfl ?_
          refine zk_istore_n (i := 3) dX11_fewestPulling_64 rfl (Nat.le_of_ble_eq_true rfl) rfl ?_
          subst h
          exact zk_weak (zk_leS (zk_leS (zk_leS (zk_leS (zk_leS (zk_leS (zk_leN zk_leE))))))) Jq2
set_option maxRecDepth 100000 in
set_option maxHeartbeats 4000000 in
theorem fTp_fewestPulling_ok {d : Nat} (hd : 1 ≤ d) (mem : zkM) (a1 : Int32) (a2 : Int32) (z : Int32) (h : fTp_fewestPulling mem a1 a2 = some z) : zk_X zSX d zY_X11_fewestPulling [.ref 0, .int a1, .int a2] mem (some (.int z), mem) := by
  unfold fTp_fewestPulling at h
  refine zk_meet (n := 4) (lv := [some (.ref 0), some (.int a1), some (.int a2), none, none, none, none]) zpn_X11 rfl (Nat.le_of_ble_eq_true rfl) ?_
  refine zk_bipush dX11_fewestPulling_0 zkb_m9 ?_
  refine zk_istore_n (i := 3) dX11_fewestPulling_2 rfl (Nat.le_of_ble_eq_true rfl) rfl ?_
  refine zk_bipush dX11_fewestPulling_3 zkb_6 ?_
  refine zk_istore dX11_fewestPulling_5 (Nat.le_of_ble_eq_true rfl) rfl ?_
  refine zk_iconst dX11_fewestPulling_7 zki_1 ?_
  refine zk_istore dX11_fewestPulling_8 (Nat.le_of_ble_eq_true rfl) rfl ?_
  obtain ⟨q1, hq1, h⟩ := zk_ob h
  refine zk_weak (zk_leS (zk_leS (zk_leS (zk_leS (zk_leS (zk_leS (zk_leN zk_leE))))))) (fTp_fewestPulling_L10_ok hd 500 mem a1 a2 (-9 : Int32) (6 : Int32) (1 : Int32) _ hq1 ?_)
  refine zk_iload_n (i := 3) dX11_fewestPulling_71 rfl rfl ?_
  exact zk_ireturn dX11_fewestPulling_72 rfl (zk_rI (Option.some.inj h))
set_option maxRecDepth 100000 in
set_option maxHeartbeats 4000000 in
theorem fTp_hoist_ok {d : Nat} (hd : 2 ≤ d) (mem : zkM) (a1 : Int32) (a2 : Int32) (z : Int32 × zkM) (h : fTp_hoist mem a1 a2 = some z) : zk_X zSX d zY_X11_hoist [.ref 0, .int a1, .int a2] mem (some (.int z.1), z.2) := by
  unfold fTp_hoist at h
  refine zk_meet (n := 2) (lv := [some (.ref 0), some (.int a1), some (.int a2), none, none]) zpn_X11 rfl (Nat.le_of_ble_eq_true rfl) ?_
  refine zk_iload_n (i := 1) dX11_hoist_0 rfl rfl ?_
  refine zk_iconst dX11_hoist_1 zki_0 ?_
  refine zk_aload_n (i := 0) dX11_hoist_2 rfl rfl ?_
  refine zk_getR 0 11 10 dX11_hoist_3 zf_X11_82 (Nat.le_of_ble_eq_true rfl) rfl rfl ?_
  refine zk_getI 46 10 0 dX11_hoist_6 zf_X11_120 (Nat.le_of_ble_eq_true rfl) rfl rfl ?_
  refine zk_iconst dX11_hoist_9 zki_1 ?_
  refine zk_isub dX11_hoist_10 ?_
  refine zk_callSi zY_X11_within [_, _, _] dX11_hoist_11 zl_X11_within zc_X11_93 (fTp_within_ok (d := 0) (Nat.le_refl _) mem _ _ _ _ rfl) (Nat.lt_of_lt_of_le (by decide) hd) (Nat.le_of_ble_eq_true rfl) ?_
  refine zk_if_eq 27 dX11_hoist_14 rfl (fun c9 => ?_) (fun c9 => ?_)
  · have h := zk_it _ h c9
    refine zk_iconst dX11_hoist_27 zki_m1 ?_
    exact zk_ireturn dX11_hoist_28 rfl (zk_rIw (Option.some.inj h))
  · have h := zk_if _ h c9
    refine zk_iload_n (i := 2) dX11_hoist_17 rfl rfl ?_
    refine zk_iconst dX11_hoist_18 zki_1 ?_
    refine zk_bipush dX11_hoist_19 zkb_60 ?_
    refine zk_callSi zY_X11_within [_, _, _] dX11_hoist_21 zl_X11_within zc_X11_93 (fTp_within_ok (d := 0) (Nat.le_refl _) mem _ _ _ _ rfl) (Nat.lt_of_lt_of_le (by decide) hd) (Nat.le_of_ble_eq_true rfl) ?_
    refine zk_if_ne 29 dX11_hoist_24 rfl (fun c8 => ?_) (fun c8 => ?_)
    · have h := zk_if _ h c8
      refine zk_aload_n (i := 0) dX11_hoist_29 rfl rfl ?_
      refine zk_getR 0 11 2 dX11_hoist_30 zf_X11_26 (Nat.le_of_ble_eq_true rfl) rfl rfl ?_
      refine zk_aload_n (i := 0) dX11_hoist_33 rfl rfl ?_
      refine zk_getR 0 11 10 dX11_hoist_34 zf_X11_82 (Nat.le_of_ble_eq_true rfl) rfl rfl ?_
      refine zk_aload_n (i := 0) dX11_hoist_37 rfl rfl ?_
      refine zk_getR 0 11 1 dX11_hoist_38 zf_X11_19 (Nat.le_of_ble_eq_true rfl) rfl rfl ?_
      obtain ⟨q1, hq1, h⟩ := zk_ob h
      refine zk_callVv zY_X1_weigh 6 1 [_, _] dX11_hoist_41 zl_X1_weigh zc_X11_133 zk_ok1 (Nat.le_of_ble_eq_true rfl) rfl (fBurden_weigh_ok (d := 1) (Nat.le_refl _) mem  _ hq1) (Nat.lt_of_lt_of_le (by decide) hd) (Nat.le_of_ble_eq_true rfl) ?_
      refine zk_iload_n (i := 2) dX11_hoist_44 rfl rfl ?_
      refine zk_aload_n (i := 0) dX11_hoist_45 rfl rfl ?_
      refine zk_getR 0 11 10 dX11_hoist_46 zf_X11_82 (Nat.le_of_ble_eq_true rfl) rfl rfl ?_
      refine zk_getR 46 10 3 dX11_hoist_49 zf_X11_123 (Nat.le_of_ble_eq_true rfl) rfl rfl ?_
      refine zk_iload_n (i := 1) dX11_hoist_52 rfl rfl ?_
      obtain ⟨b2, h⟩ := zk_gd h
      refine zk_iaload 47 8 dX11_hoist_53 (Nat.le_of_ble_eq_true rfl) rfl (zk_inb_in b2) ?_
      refine zk_iconst dX11_hoist_54 zki_4 ?_
      refine zk_idiv dX11_hoist_55 (by decide) ?_
      refine zk_iadd dX11_hoist_56 ?_
      obtain ⟨v3, ev3, h⟩ := zk_lt h
      refine zk_istore_n' (i := 3) dX11_hoist_57 rfl ev3 (Nat.le_of_ble_eq_true rfl) rfl ?_
      refine zk_aload_n (i := 0) dX11_hoist_58 rfl rfl ?_
      refine zk_getR 0 11 10 dX11_hoist_59 zf_X11_82 (Nat.le_of_ble_eq_true rfl) rfl rfl ?_
      refine zk_getR 46 10 4 dX11_hoist_62 zf_X11_127 (Nat.le_of_ble_eq_true rfl) rfl rfl ?_
      refine zk_iload_n (i := 1) dX11_hoist_65 rfl rfl ?_
      obtain ⟨b4, h⟩ := zk_gd h
      refine zk_iaload 48 8 dX11_hoist_66 (Nat.le_of_ble_eq_true rfl) rfl (zk_inb_in b4) ?_
      refine zk_aload_n (i := 0) dX11_hoist_67 rfl rfl ?_
      refine zk_getR 0 11 2 dX11_hoist_68 zf_X11_26 (Nat.le_of_ble_eq_true rfl) rfl rfl ?_
      refine zk_getR 6 1 1 dX11_hoist_71 zf_X11_137 (Nat.le_of_ble_eq_true rfl) rfl rfl ?_
      refine zk_iload_n (i := 1) dX11_hoist_74 rfl rfl ?_
      obtain ⟨b5, h⟩ := zk_gd h
      refine zk_iaload 8 8 dX11_hoist_75 (Nat.le_of_ble_eq_true rfl) rfl (zk_inb_in b5) ?_
      refine zk_isub dX11_hoist_76 ?_
      refine zk_iload_n (i := 2) dX11_hoist_77 rfl rfl ?_
      refine zk_isub dX11_hoist_78 ?_
      obtain ⟨v6, ev6, h⟩ := zk_lt h
      refine zk_istore' dX11_hoist_79 ev6 (Nat.le_of_ble_eq_true rfl) rfl ?_
      refine zk_aload_n (i := 0) dX11_hoist_81 rfl rfl ?_
      refine zk_iload_n (i := 3) dX11_hoist_82 rfl rfl ?_
      refine zk_iload dX11_hoist_83 rfl ?_
      obtain ⟨q7, hq7, h⟩ := zk_ob h
      refine zk_callVi zY_X11_fewestPulling 0 11 [_, _] dX11_hoist_85 zl_X11_fewestPulling zc_X11_290 zk_ok11 (Nat.le_of_ble_eq_true rfl) rfl (fTp_fewestPulling_ok (d := 1) (Nat.le_refl _) q1 _ _ _ hq7) (Nat.lt_of_lt_of_le (by decide) hd) (Nat.le_of_ble_eq_true rfl) ?_
      exact zk_ireturn dX11_hoist_88 rfl (zk_rIw (Option.some.inj h))
    · have h := zk_it _ h c8
      refine zk_iconst dX11_hoist_27 zki_m1 ?_
      exact zk_ireturn dX11_hoist_28 rfl (zk_rIw (Option.some.inj h))
set_option maxRecDepth 100000 in
set_option maxHeartbeats 4000000 in
theorem fRot_note_ok {d : Nat} (hd : 0 ≤ d) (mem : zkM) (a1 : Int32) (a2 : Int32) (a3 : Int32) (z : Bool × zkM) (h : fRot_note mem a1 a2 a3 = some z) : zk_X zSX d zY_X7_note [.ref 26, .int a1, .int a2, .int a3] mem (some (.int (zk_b z.1)), z.2) := by
  unfold fRot_note at h
  refine zk_meet (n := 0) (lv := [some (.ref 26), some (.int a1), some (.int a2), some (.int a3)]) zpn_X7 rfl (Nat.le_of_ble_eq_true rfl) ?_
  refine zk_aload_n (i := 0) dX7_note_0 rfl rfl ?_
  refine zk_getI 26 7 0 dX7_note_1 zf_X7_9 (Nat.le_of_ble_eq_true rfl) rfl rfl ?_
  refine zk_bipush dX7_note_4 zkb_6 ?_
  refine zk_icmp_lt 11 dX7_note_6 rfl (fun c8 => ?_) (fun c8 => ?_)
  · have h := zk_it _ h c8
    refine zk_aload_n (i := 0) dX7_note_11 rfl rfl ?_
    refine zk_getR 26 7 3 dX7_note_12 zf_X7_21 (Nat.le_of_ble_eq_true rfl) rfl rfl ?_
    refine zk_aload_n (i := 0) dX7_note_15 rfl rfl ?_
    refine zk_getI 26 7 0 dX7_note_16 zf_X7_9 (Nat.le_of_ble_eq_true rfl) rfl rfl ?_
    refine zk_iload_n (i := 1) dX7_note_19 rfl rfl ?_
    obtain ⟨b1, h⟩ := zk_gd h
    obtain ⟨m2, em2, h⟩ := zk_lt h
    refine zk_iastore' 27 6 dX7_note_20 (Nat.le_of_ble_eq_true rfl) rfl (zk_inb_in b1) em2 ?_
    refine zk_aload_n (i := 0) dX7_note_21 rfl rfl ?_
    refine zk_getR 26 7 4 dX7_note_22 zf_X7_25 (Nat.le_of_ble_eq_true rfl) rfl rfl ?_
    refine zk_aload_n (i := 0) dX7_note_25 rfl rfl ?_
    refine zk_getI 26 7 0 dX7_note_26 zf_X7_9 (Nat.le_of_ble_eq_true rfl) rfl rfl ?_
    refine zk_iload_n (i := 2) dX7_note_29 rfl rfl ?_
    obtain ⟨b3, h⟩ := zk_gd h
    obtain ⟨m4, em4, h⟩ := zk_lt h
    refine zk_iastore' 28 6 dX7_note_30 (Nat.le_of_ble_eq_true rfl) rfl (zk_inb_in b3) em4 ?_
    refine zk_aload_n (i := 0) dX7_note_31 rfl rfl ?_
    refine zk_getR 26 7 5 dX7_note_32 zf_X7_28 (Nat.le_of_ble_eq_true rfl) rfl rfl ?_
    refine zk_aload_n (i := 0) dX7_note_35 rfl rfl ?_
    refine zk_getI 26 7 0 dX7_note_36 zf_X7_9 (Nat.le_of_ble_eq_true rfl) rfl rfl ?_
    refine zk_iload_n (i := 3) dX7_note_39 rfl rfl ?_
    obtain ⟨b5, h⟩ := zk_gd h
    obtain ⟨m6, em6, h⟩ := zk_lt h
    refine zk_iastore' 29 6 dX7_note_40 (Nat.le_of_ble_eq_true rfl) rfl (zk_inb_in b5) em6 ?_
    refine zk_aload_n (i := 0) dX7_note_41 rfl rfl ?_
    refine zk_dup dX7_note_42 rfl ?_
    refine zk_getI 26 7 0 dX7_note_43 zf_X7_9 (Nat.le_of_ble_eq_true rfl) rfl rfl ?_
    refine zk_iconst dX7_note_46 zki_1 ?_
    refine zk_iadd dX7_note_47 ?_
    obtain ⟨m7, em7, h⟩ := zk_lt h
    refine zk_putI' 26 7 0 dX7_note_48 zp_X7_9 (Nat.le_of_ble_eq_true rfl) rfl rfl em7 ?_
    refine zk_iconst dX7_note_51 zki_1 ?_
    exact zk_zreturn dX7_note_52 rfl rfl (zk_rZw (Option.some.inj h))
  · have h := zk_if _ h c8
    refine zk_iconst dX7_note_9 zki_0 ?_
    exact zk_zreturn dX7_note_10 rfl rfl (zk_rZw (Option.some.inj h))
set_option maxRecDepth 100000 in
set_option maxHeartbeats 4000000 in
theorem fTp_test_ok {d : Nat} (hd : 2 ≤ d) (mem : zkM) (a1 : Int32) (a2 : Int32) (a3 : Int32) (z : Int32 × zkM) (h : fTp_test mem a1 a2 a3 = some z) : zk_X zSX d zY_X11_test [.ref 0, .int a1, .int a2, .int a3] mem (some (.int z.1), z.2) := by
  unfold fTp_test at h
  refine zk_meet (n := 0) (lv := [some (.ref 0), some (.int a1), some (.int a2), some (.int a3)]) zpn_X11 rfl (Nat.le_of_ble_eq_true rfl) ?_
  refine zk_aload_n (i := 0) dX11_test_0 rfl rfl ?_
  refine zk_iload_n (i := 1) dX11_test_1 rfl rfl ?_
  refine zk_callVi zY_X11_isPlank 0 11 [_] dX11_test_2 zl_X11_isPlank zc_X11_140 zk_ok11 (Nat.le_of_ble_eq_true rfl) rfl (fTp_isPlank_ok (d := 1) (Nat.le_refl _) mem _ _ rfl) (Nat.lt_of_lt_of_le (by decide) hd) (Nat.le_of_ble_eq_true rfl) ?_
  refine zk_if_eq 27 dX11_test_5 rfl (fun c5 => ?_) (fun c5 => ?_)
  · have h := zk_it _ h c5
    refine zk_iconst dX11_test_27 zki_m1 ?_
    exact zk_ireturn dX11_test_28 rfl (zk_rIw (Option.some.inj h))
  · have h := zk_if _ h c5
    refine zk_iload_n (i := 2) dX11_test_8 rfl rfl ?_
    refine zk_iconst dX11_test_9 zki_1 ?_
    refine zk_bipush dX11_test_10 zkb_60 ?_
    refine zk_callSi zY_X11_within [_, _, _] dX11_test_12 zl_X11_within zc_X11_93 (fTp_within_ok (d := 0) (Nat.le_refl _) mem _ _ _ _ rfl) (Nat.lt_of_lt_of_le (by decide) hd) (Nat.le_of_ble_eq_true rfl) ?_
    refine zk_if_eq 27 dX11_test_15 rfl (fun c4 => ?_) (fun c4 => ?_)
    · have h := zk_it _ h c4
      refine zk_iconst dX11_test_27 zki_m1 ?_
      exact zk_ireturn dX11_test_28 rfl (zk_rIw (Option.some.inj h))
    · have h := zk_if _ h c4
      refine zk_iload_n (i := 3) dX11_test_18 rfl rfl ?_
      refine zk_iconst dX11_test_19 zki_0 ?_
      refine zk_iconst dX11_test_20 zki_1 ?_
      refine zk_callSi zY_X11_within [_, _, _] dX11_test_21 zl_X11_within zc_X11_93 (fTp_within_ok (d := 0) (Nat.le_refl _) mem _ _ _ _ rfl) (Nat.lt_of_lt_of_le (by decide) hd) (Nat.le_of_ble_eq_true rfl) ?_
      refine zk_if_ne 29 dX11_test_24 rfl (fun c3 => ?_) (fun c3 => ?_)
      · have h := zk_if _ h c3
        refine zk_aload_n (i := 0) dX11_test_29 rfl rfl ?_
        refine zk_getR 0 11 5 dX11_test_30 zf_X11_47 (Nat.le_of_ble_eq_true rfl) rfl rfl ?_
        refine zk_iload_n (i := 1) dX11_test_33 rfl rfl ?_
        refine zk_iload_n (i := 2) dX11_test_34 rfl rfl ?_
        refine zk_iload_n (i := 3) dX11_test_35 rfl rfl ?_
        obtain ⟨q1, hq1, h⟩ := zk_ob h
        refine zk_callVi zY_X7_note 26 7 [_, _, _] dX11_test_36 zl_X7_note zc_X11_294 zk_ok7 (Nat.le_of_ble_eq_true rfl) rfl (fRot_note_ok (d := 0) (Nat.le_refl _) mem _ _ _ _ hq1) (Nat.lt_of_lt_of_le (by decide) hd) (Nat.le_of_ble_eq_true rfl) ?_
        refine zk_if_eq 52 dX11_test_39 rfl (fun c2 => ?_) (fun c2 => ?_)
        · have h := zk_it _ h c2
          refine zk_bipush dX11_test_52 zkb_m3 ?_
          exact zk_ireturn dX11_test_54 rfl (zk_rIw (Option.some.inj h))
        · have h := zk_if _ h c2
          refine zk_aload_n (i := 0) dX11_test_42 rfl rfl ?_
          refine zk_getR 0 11 5 dX11_test_43 zf_X11_47 (Nat.le_of_ble_eq_true rfl) rfl rfl ?_
          refine zk_getI 26 7 0 dX11_test_46 zf_X11_117 (Nat.le_of_ble_eq_true rfl) rfl rfl ?_
          refine zk_goto 54 dX11_test_49 rfl ?_
          exact zk_ireturn dX11_test_54 rfl (zk_rIw (Option.some.inj h))
      · have h := zk_it _ h c3
        refine zk_iconst dX11_test_27 zki_m1 ?_
        exact zk_ireturn dX11_test_28 rfl (zk_rIw (Option.some.inj h))
set_option maxRecDepth 100000 in
set_option maxHeartbeats 4000000 in
theorem fTp_forget_ok {d : Nat} (hd : 0 ≤ d) (mem : zkM) (z : Int32 × zkM) (h : fTp_forget mem = z) : zk_X zSX d zY_X11_forget [.ref 0] mem (some (.int z.1), z.2) := by
  unfold fTp_forget at h
  refine zk_meet (n := 1) (lv := [some (.ref 0), none]) zpn_X11 rfl (Nat.le_of_ble_eq_true rfl) ?_
  refine zk_aload_n (i := 0) dX11_forget_0 rfl rfl ?_
  refine zk_getR 0 11 5 dX11_forget_1 zf_X11_47 (Nat.le_of_ble_eq_true rfl) rfl rfl ?_
  refine zk_getI 26 7 0 dX11_forget_4 zf_X11_117 (Nat.le_of_ble_eq_true rfl) rfl rfl ?_
  obtain ⟨v1, ev1, h⟩ := zk_lt h
  refine zk_istore_n' (i := 1) dX11_forget_7 rfl ev1 (Nat.le_of_ble_eq_true rfl) rfl ?_
  refine zk_aload_n (i := 0) dX11_forget_8 rfl rfl ?_
  refine zk_getR 0 11 5 dX11_forget_9 zf_X11_47 (Nat.le_of_ble_eq_true rfl) rfl rfl ?_
  refine zk_iconst dX11_forget_12 zki_0 ?_
  obtain ⟨m2, em2, h⟩ := zk_lt h
  refine zk_putI' 26 7 0 dX11_forget_13 zp_X11_117 (Nat.le_of_ble_eq_true rfl) rfl rfl em2 ?_
  refine zk_iload_n (i := 1) dX11_forget_16 rfl rfl ?_
  exact zk_ireturn dX11_forget_17 rfl (zk_rIw h)
set_option maxRecDepth 100000 in
set_option maxHeartbeats 4000000 in
theorem fRot_breaks_ok {d : Nat} (hd : 0 ≤ d) (mem : zkM) (a1 : Int32) (a2 : Int32) (a3 : Int32) (z : Bool) (h : fRot_breaks mem a1 a2 a3 = some z) : zk_X zSX d zY_X7_breaks [.ref 46, .int a1, .int a2, .int a3] mem (some (.int (zk_b z)), mem) := by
  unfold fRot_breaks at h
  refine zk_meet (n := 1) (lv := [some (.ref 46), some (.int a1), some (.int a2), some (.int a3), none]) zpn_X7 rfl (Nat.le_of_ble_eq_true rfl) ?_
  refine zk_iload_n (i := 1) dX7_breaks_0 rfl rfl ?_
  refine zk_iload_n (i := 3) dX7_breaks_1 rfl rfl ?_
  obtain ⟨q1, hq1, h⟩ := zk_ob h
  have Jq1 : zk_J zSX d zY_X7_breaks (zk_R zSX (some (.int (zk_b z)), mem)) 22 [none, none, some (.int a2), none, none] [.int q1] mem := by
    refine zk_istore dX7_breaks_22 (Nat.le_of_ble_eq_true rfl) rfl ?_
    refine zk_iload dX7_breaks_24 rfl ?_
    refine zk_iload_n (i := 2) dX7_breaks_26 rfl rfl ?_
    refine zk_icmp_ge 34 dX7_breaks_27 rfl (fun c5 => ?_) (fun c5 => ?_)
    · have h := zk_it _ h c5
      refine zk_iconst dX7_breaks_34 zki_0 ?_
      exact zk_zreturn dX7_breaks_35 rfl rfl (zk_rZ (Option.some.inj h))
    · have h := zk_if _ h c5
      refine zk_iconst dX7_breaks_30 zki_1 ?_
      refine zk_goto 35 dX7_breaks_31 rfl ?_
      exact zk_zreturn dX7_breaks_35 rfl rfl (zk_rZ (Option.some.inj h))
  have h := hq1
  clear hq1
  refine zk_icmp_ne 16 dX7_breaks_2 rfl (fun c4 => ?_) (fun c4 => ?_)
  · have h := zk_if _ h c4
    refine zk_aload_n (i := 0) dX7_breaks_16 rfl rfl ?_
    refine zk_getR 46 10 6 dX7_breaks_17 zf_X7_44 (Nat.le_of_ble_eq_true rfl) rfl rfl ?_
    refine zk_iload_n (i := 1) dX7_breaks_20 rfl rfl ?_
    obtain ⟨b2, h⟩ := zk_gd h
    refine zk_iaload 50 6 dX7_breaks_21 (Nat.le_of_ble_eq_true rfl) rfl (zk_inb_in b2) ?_
    cases h
    exact zk_weak (zk_leN (zk_leN (zk_leS (zk_leN (zk_leN zk_leE))))) Jq1
  · have h := zk_it _ h c4
    refine zk_aload_n (i := 0) dX7_breaks_5 rfl rfl ?_
    refine zk_getR 46 10 6 dX7_breaks_6 zf_X7_44 (Nat.le_of_ble_eq_true rfl) rfl rfl ?_
    refine zk_iload_n (i := 1) dX7_breaks_9 rfl rfl ?_
    obtain ⟨b3, h⟩ := zk_gd h
    refine zk_iaload 50 6 dX7_breaks_10 (Nat.le_of_ble_eq_true rfl) rfl (zk_inb_in b3) ?_
    refine zk_iconst dX7_breaks_11 zki_2 ?_
    refine zk_idiv dX7_breaks_12 (by decide) ?_
    refine zk_goto 22 dX7_breaks_13 rfl ?_
    cases h
    exact zk_weak (zk_leN (zk_leN (zk_leS (zk_leN (zk_leN zk_leE))))) Jq1
set_option maxRecDepth 100000 in
set_option maxHeartbeats 4000000 in
theorem fRot_agrees_L2_ok {d : Nat} {r : Option Value × zkM} (hd : 1 ≤ d)  : ∀ (n : Nat) (mem : zkM) (x2 : Int32) (x3 : Int32) (z : (Bool) ⊕ (Unit)), fRot_agrees_L2 n mem x2 x3 = some z → (∀ y, z = .inl y → (some (.int (zk_b y)), mem) = r) → (∀ z', z = .inr z' → zk_J zSX d zY_X7_agrees (zk_R zSX r) 53 [none, none, none, none] [] mem) → zk_J zSX d zY_X7_agrees (zk_R zSX r) 2 [some (.ref 26), some (.ref 46), some (.int x2), some (.int x3)] [] mem := by
  intro n
  induction n with
  | zero => intro mem x2 x3 z h; cases h
  | succ n ih =>
    intro mem x2 x3 z h hr he
    rw [fRot_agrees_L2] at h
    refine zk_iload_n (i := 3) dX7_agrees_2 rfl rfl ?_
    refine zk_aload_n (i := 0) dX7_agrees_3 rfl rfl ?_
    refine zk_getI 26 7 0 dX7_agrees_4 zf_X7_9 (Nat.le_of_ble_eq_true rfl) rfl rfl ?_
    refine zk_icmp_ge 53 dX7_agrees_7 rfl (fun c8 => ?_) (fun c8 => ?_)
    · have h := zk_it _ h c8
      exact zk_weak (zk_leN (zk_leN (zk_leN (zk_leN zk_leE)))) (he _ (Option.some.inj h).symm)
    · have h := zk_if _ h c8
      refine zk_aload_n (i := 1) dX7_agrees_10 rfl rfl ?_
      refine zk_aload_n (i := 0) dX7_agrees_11 rfl rfl ?_
      refine zk_getR 26 7 3 dX7_agrees_12 zf_X7_21 (Nat.le_of_ble_eq_true rfl) rfl rfl ?_
      refine zk_iload_n (i := 3) dX7_agrees_15 rfl rfl ?_
      obtain ⟨b1, h⟩ := zk_gd h
      refine zk_iaload 27 6 dX7_agrees_16 (Nat.le_of_ble_eq_true rfl) rfl (zk_inb_in b1) ?_
      refine zk_aload_n (i := 0) dX7_agrees_17 rfl rfl ?_
      refine zk_getR 26 7 4 dX7_agrees_18 zf_X7_25 (Nat.le_of_ble_eq_true rfl) rfl rfl ?_
      refine zk_iload_n (i := 3) dX7_agrees_21 rfl rfl ?_
      obtain ⟨b2, h⟩ := zk_gd h
      refine zk_iaload 28 6 dX7_agrees_22 (Nat.le_of_ble_eq_true rfl) rfl (zk_inb_in b2) ?_
      refine zk_iload_n (i := 2) dX7_agrees_23 rfl rfl ?_
      obtain ⟨q3, hq3, h⟩ := zk_ob h
      refine zk_callSi zY_X7_breaks [_, _, _, _] dX7_agrees_24 zl_X7_breaks zc_X7_40 (fRot_breaks_ok (d := 0) (Nat.le_refl _) mem _ _ _ _ hq3) (Nat.lt_of_lt_of_le (by decide) hd) (Nat.le_of_ble_eq_true rfl) ?_
      refine zk_aload_n (i := 0) dX7_agrees_27 rfl rfl ?_
      refine zk_getR 26 7 5 dX7_agrees_28 zf_X7_28 (Nat.le_of_ble_eq_true rfl) rfl rfl ?_
      refine zk_iload_n (i := 3) dX7_agrees_31 rfl rfl ?_
      obtain ⟨b4, h⟩ := zk_gd h
      refine zk_iaload 29 6 dX7_agrees_32 (Nat.le_of_ble_eq_true rfl) rfl (zk_inb_in b4) ?_
      refine zk_iconst dX7_agrees_33 zki_1 ?_
      obtain ⟨q5, hq5, h⟩ := zk_lt h
      have Jq5 : zk_J zSX d zY_X7_agrees (zk_R zSX r) 42 [some (.ref 26), some (.ref 46), some (.int x2), some (.int x3)] [.int (zk_b q5), .int (zk_b q3)] mem := by
        refine zk_icmp_eq 47 dX7_agrees_42 rfl (fun c7 => ?_) (fun c7 => ?_)
        · have h := zk_it _ h c7
          refine zk_iinc2 dX7_agrees_47 rfl zki_1 (Nat.le_of_ble_eq_true rfl) rfl ?_
          refine zk_goto 2 dX7_agrees_50 rfl ?_
          exact zk_weak (zk_leS (zk_leS (zk_leS (zk_leS zk_leE)))) (ih mem x2 (x3 + (1 : Int32)) _ h hr he)
        · have h := zk_if _ h c7
          refine zk_iconst dX7_agrees_45 zki_0 ?_
          exact zk_zreturn dX7_agrees_46 rfl rfl ((zk_rZ rfl).trans (hr _ (Option.some.inj h).symm))
      have h := hq5
      clear hq5
      refine zk_icmp_ne 41 dX7_agrees_34 rfl (fun c6 => ?_) (fun c6 => ?_)
      · have h := zk_if _ h c6
        refine zk_iconst dX7_agrees_41 zki_0 ?_
        subst h
        exact zk_weak (zk_leS (zk_leS (zk_leS (zk_leS zk_leE)))) Jq5
      · have h := zk_it _ h c6
        refine zk_iconst dX7_agrees_37 zki_1 ?_
        refine zk_goto 42 dX7_agrees_38 rfl ?_
        subst h
        exact zk_weak (zk_leS (zk_leS (zk_leS (zk_leS zk_leE)))) Jq5
set_option maxRecDepth 100000 in
set_option maxHeartbeats 4000000 in
theorem fRot_agrees_ok {d : Nat} (hd : 1 ≤ d) (mem : zkM) (a2 : Int32) (z : Bool) (h : fRot_agrees mem a2 = some z) : zk_X zSX d zY_X7_agrees [.ref 26, .ref 46, .int a2] mem (some (.int (zk_b z)), mem) := by
  unfold fRot_agrees at h
  refine zk_meet (n := 1) (lv := [some (.ref 26), some (.ref 46), some (.int a2), none]) zpn_X7 rfl (Nat.le_of_ble_eq_true rfl) ?_
  refine zk_iconst dX7_agrees_0 zki_0 ?_
  refine zk_istore_n (i := 3) dX7_agrees_1 rfl (Nat.le_of_ble_eq_true rfl) rfl ?_
  obtain ⟨q1, hq1, h⟩ := zk_ob h
  refine zk_weak (zk_leS (zk_leS (zk_leS (zk_leS zk_leE)))) (fRot_agrees_L2_ok hd 500 mem a2 (0 : Int32) _ hq1 (fun y hy => ?_) (fun q2 hy => ?_))
  · subst hy; have h := zk_el h; cases h; rfl
  subst hy
  have h := zk_er h
  refine zk_iconst dX7_agrees_53 zki_1 ?_
  exact zk_zreturn dX7_agrees_54 rfl rfl (zk_rZ (Option.some.inj h))
set_option maxRecDepth 100000 in
set_option maxHeartbeats 4000000 in
theorem fRot_suspects_L4_ok {d : Nat} {Z : zkZ} (hd : 2 ≤ d)  : ∀ (n : Nat) (mem : zkM) (x2 : Int32) (x3 : Int32) (z : Int32), fRot_suspects_L4 n mem x2 x3 = some z → zk_J zSX d zY_X7_suspects Z 33 [none, none, some (.int z), none] [] mem → zk_J zSX d zY_X7_suspects Z 4 [some (.ref 26), some (.ref 46), some (.int x2), some (.int x3)] [] mem := by
  intro n
  induction n with
  | zero => intro mem x2 x3 z h; cases h
  | succ n ih =>
    intro mem x2 x3 z h he
    rw [fRot_suspects_L4] at h
    refine zk_iload_n (i := 3) dX7_suspects_4 rfl rfl ?_
    refine zk_aload_n (i := 1) dX7_suspects_5 rfl rfl ?_
    refine zk_getI 46 10 1 dX7_suspects_6 zf_X7_31 (Nat.le_of_ble_eq_true rfl) rfl rfl ?_
    refine zk_icmp_ge 33 dX7_suspects_9 rfl (fun c5 => ?_) (fun c5 => ?_)
    · have h := zk_it _ h c5
      cases h
      exact zk_weak (zk_leN (zk_leN (zk_leS (zk_leN zk_leE)))) he
    · have h := zk_if _ h c5
      refine zk_aload_n (i := 0) dX7_suspects_12 rfl rfl ?_
      refine zk_aload_n (i := 1) dX7_suspects_13 rfl rfl ?_
      refine zk_iload_n (i := 3) dX7_suspects_14 rfl rfl ?_
      obtain ⟨q1, hq1, h⟩ := zk_ob h
      refine zk_callVi zY_X7_agrees 26 7 [_, _] dX7_suspects_15 zl_X7_agrees zc_X7_36 zk_ok7 (Nat.le_of_ble_eq_true rfl) rfl (fRot_agrees_ok (d := 1) (Nat.le_refl _) mem _ _ hq1) (Nat.lt_of_lt_of_le (by decide) hd) (Nat.le_of_ble_eq_true rfl) ?_
      obtain ⟨q2, hq2, h⟩ := zk_lt h
      have Jq2 : zk_J zSX d zY_X7_suspects Z 27 [some (.ref 26), some (.ref 46), some (.int q2), some (.int x3)] [] mem := by
        refine zk_iinc2 dX7_suspects_27 rfl zki_1 (Nat.le_of_ble_eq_true rfl) rfl ?_
        refine zk_goto 4 dX7_suspects_30 rfl ?_
        exact zk_weak (zk_leS (zk_leS (zk_leS (zk_leS zk_leE)))) (ih mem q2 (x3 + (1 : Int32)) _ h he)
      have h := hq2
      clear hq2
      refine zk_if_eq 27 dX7_suspects_18 rfl (fun c4 => ?_) (fun c4 => ?_)
      · have h := zk_it _ h c4
        subst h
        exact zk_weak (zk_leS (zk_leS (zk_leS (zk_leS zk_leE)))) Jq2
      · have h := zk_if _ h c4
        refine zk_iload_n (i := 2) dX7_suspects_21 rfl rfl ?_
        refine zk_iconst dX7_suspects_22 zki_1 ?_
        refine zk_iload_n (i := 3) dX7_suspects_23 rfl rfl ?_
        refine zk_ishl dX7_suspects_24 ?_
        refine zk_ior dX7_suspects_25 ?_
        obtain ⟨v3, ev3, h⟩ := zk_lt h
        refine zk_istore_n' (i := 2) dX7_suspects_26 rfl ev3 (Nat.le_of_ble_eq_true rfl) rfl ?_
        subst h
        exact zk_weak (zk_leS (zk_leS (zk_leS (zk_leS zk_leE)))) Jq2
set_option maxRecDepth 100000 in
set_option maxHeartbeats 4000000 in
theorem fRot_suspects_ok {d : Nat} (hd : 2 ≤ d) (mem : zkM) (z : Int32) (h : fRot_suspects mem = some z) : zk_X zSX d zY_X7_suspects [.ref 26, .ref 46] mem (some (.int z), mem) := by
  unfold fRot_suspects at h
  refine zk_meet (n := 2) (lv := [some (.ref 26), some (.ref 46), none, none]) zpn_X7 rfl (Nat.le_of_ble_eq_true rfl) ?_
  refine zk_iconst dX7_suspects_0 zki_0 ?_
  refine zk_istore_n (i := 2) dX7_suspects_1 rfl (Nat.le_of_ble_eq_true rfl) rfl ?_
  refine zk_iconst dX7_suspects_2 zki_0 ?_
  refine zk_istore_n (i := 3) dX7_suspects_3 rfl (Nat.le_of_ble_eq_true rfl) rfl ?_
  obtain ⟨q1, hq1, h⟩ := zk_ob h
  refine zk_weak (zk_leS (zk_leS (zk_leS (zk_leS zk_leE)))) (fRot_suspects_L4_ok hd 500 mem (0 : Int32) (0 : Int32) _ hq1 ?_)
  refine zk_iload_n (i := 2) dX7_suspects_33 rfl rfl ?_
  exact zk_ireturn dX7_suspects_34 rfl (zk_rI (Option.some.inj h))
set_option maxRecDepth 100000 in
set_option maxHeartbeats 4000000 in
theorem fTp_mayBe_ok {d : Nat} (hd : 3 ≤ d) (mem : zkM) (z : Int32) (h : fTp_mayBe mem = some z) : zk_X zSX d zY_X11_mayBe [.ref 0] mem (some (.int z), mem) := by
  unfold fTp_mayBe at h
  refine zk_meet (n := 0) (lv := [some (.ref 0)]) zpn_X11 rfl (Nat.le_of_ble_eq_true rfl) ?_
  refine zk_aload_n (i := 0) dX11_mayBe_0 rfl rfl ?_
  refine zk_getR 0 11 5 dX11_mayBe_1 zf_X11_47 (Nat.le_of_ble_eq_true rfl) rfl rfl ?_
  refine zk_aload_n (i := 0) dX11_mayBe_4 rfl rfl ?_
  refine zk_getR 0 11 10 dX11_mayBe_5 zf_X11_82 (Nat.le_of_ble_eq_true rfl) rfl rfl ?_
  obtain ⟨q1, hq1, h⟩ := zk_ob h
  refine zk_callVi zY_X7_suspects 26 7 [_] dX11_mayBe_8 zl_X7_suspects zc_X11_297 zk_ok7 (Nat.le_of_ble_eq_true rfl) rfl (fRot_suspects_ok (d := 2) (Nat.le_refl _) mem  _ hq1) (Nat.lt_of_lt_of_le (by decide) hd) (Nat.le_of_ble_eq_true rfl) ?_
  exact zk_ireturn dX11_mayBe_11 rfl (zk_rI (Option.some.inj h))
set_option maxRecDepth 100000 in
set_option maxHeartbeats 4000000 in
theorem fRot_leftAtWorst_L6_ok {d : Nat} {Z : zkZ} (hd : 1 ≤ d)  : ∀ (n : Nat) (mem : zkM) (x1 : Int32) (x2 : Int32) (x3 : Int32) (x4 : Int32) (x5 : Int32) (z : Int32), fRot_leftAtWorst_L6 n mem x1 x2 x3 x4 x5 = some z → zk_J zSX d zY_X7_leftAtWorst Z 44 [none, none, none, some (.int x3), some (.int z), none] [] mem → zk_J zSX d zY_X7_leftAtWorst Z 6 [some (.ref 46), some (.int x1), some (.int x2), some (.int x3), some (.int x4), some (.int x5)] [] mem := by
  intro n
  induction n with
  | zero => intro mem x1 x2 x3 x4 x5 z h; cases h
  | succ n ih =>
    intro mem x1 x2 x3 x4 x5 z h he
    rw [fRot_leftAtWorst_L6] at h
    refine zk_iload dX7_leftAtWorst_6 rfl ?_
    refine zk_aload_n (i := 0) dX7_leftAtWorst_8 rfl rfl ?_
    refine zk_getI 46 10 1 dX7_leftAtWorst_9 zf_X7_31 (Nat.le_of_ble_eq_true rfl) rfl rfl ?_
    refine zk_icmp_ge 44 dX7_leftAtWorst_12 rfl (fun c5 => ?_) (fun c5 => ?_)
    · have h := zk_it _ h c5
      cases h
      exact zk_weak (zk_leN (zk_leN (zk_leN (zk_leS (zk_leS (zk_leN zk_leE)))))) he
    · have h := zk_if _ h c5
      refine zk_iload_n (i := 3) dX7_leftAtWorst_15 rfl rfl ?_
      refine zk_iload dX7_leftAtWorst_16 rfl ?_
      refine zk_ishr dX7_leftAtWorst_18 ?_
      refine zk_iconst dX7_leftAtWorst_19 zki_1 ?_
      refine zk_iand dX7_leftAtWorst_20 ?_
      obtain ⟨q1, hq1, h⟩ := zk_ob h
      have Jq1 : zk_J zSX d zY_X7_leftAtWorst Z 38 [some (.ref 46), some (.int x1), some (.int x2), some (.int x3), some (.int q1), some (.int x5)] [] mem := by
        refine zk_iinc2 dX7_leftAtWorst_38 rfl zki_1 (Nat.le_of_ble_eq_true rfl) rfl ?_
        refine zk_goto 6 dX7_leftAtWorst_41 rfl ?_
        exact zk_weak (zk_leS (zk_leS (zk_leS (zk_leS (zk_leS (zk_leS zk_leE)))))) (ih mem x1 x2 x3 q1 (x5 + (1 : Int32)) _ h he)
      have h := hq1
      clear hq1
      refine zk_if_eq 38 dX7_leftAtWorst_21 rfl (fun c4 => ?_) (fun c4 => ?_)
      · have h := zk_it _ h c4
        cases h
        exact zk_weak (zk_leS (zk_leS (zk_leS (zk_leS (zk_leS (zk_leS zk_leE)))))) Jq1
      · have h := zk_if _ h c4
        refine zk_aload_n (i := 0) dX7_leftAtWorst_24 rfl rfl ?_
        refine zk_iload_n (i := 1) dX7_leftAtWorst_25 rfl rfl ?_
        refine zk_iload_n (i := 2) dX7_leftAtWorst_26 rfl rfl ?_
        refine zk_iload dX7_leftAtWorst_27 rfl ?_
        obtain ⟨q2, hq2, h⟩ := zk_ob h
        refine zk_callSi zY_X7_breaks [_, _, _, _] dX7_leftAtWorst_29 zl_X7_breaks zc_X7_40 (fRot_breaks_ok (d := 0) (Nat.le_refl _) mem _ _ _ _ hq2) (Nat.lt_of_lt_of_le (by decide) hd) (Nat.le_of_ble_eq_true rfl) ?_
        refine zk_if_eq 38 dX7_leftAtWorst_32 rfl (fun c3 => ?_) (fun c3 => ?_)
        · have h := zk_it _ h c3
          cases h
          exact zk_weak (zk_leS (zk_leS (zk_leS (zk_leS (zk_leS (zk_leS zk_leE)))))) Jq1
        · have h := zk_if _ h c3
          refine zk_iinc2 dX7_leftAtWorst_35 rfl zki_1 (Nat.le_of_ble_eq_true rfl) rfl ?_
          cases h
          exact zk_weak (zk_leS (zk_leS (zk_leS (zk_leS (zk_leS (zk_leS zk_leE)))))) Jq1
set_option maxRecDepth 100000 in
set_option maxHeartbeats 4000000 in
theorem fRot_leftAtWorst_ok {d : Nat} (hd : 1 ≤ d) (mem : zkM) (a1 : Int32) (a2 : Int32) (a3 : Int32) (z : Int32) (h : fRot_leftAtWorst mem a1 a2 a3 = some z) : zk_X zSX d zY_X7_leftAtWorst [.ref 46, .int a1, .int a2, .int a3] mem (some (.int z), mem) := by
  unfold fRot_leftAtWorst at h
  refine zk_meet (n := 2) (lv := [some (.ref 46), some (.int a1), some (.int a2), some (.int a3), none, none]) zpn_X7 rfl (Nat.le_of_ble_eq_true rfl) ?_
  refine zk_iconst dX7_leftAtWorst_0 zki_0 ?_
  refine zk_istore dX7_leftAtWorst_1 (Nat.le_of_ble_eq_true rfl) rfl ?_
  refine zk_iconst dX7_leftAtWorst_3 zki_0 ?_
  refine zk_istore dX7_leftAtWorst_4 (Nat.le_of_ble_eq_true rfl) rfl ?_
  obtain ⟨q1, hq1, h⟩ := zk_ob h
  refine zk_weak (zk_leS (zk_leS (zk_leS (zk_leS (zk_leS (zk_leS zk_leE)))))) (fRot_leftAtWorst_L6_ok hd 500 mem a1 a2 a3 (0 : Int32) (0 : Int32) _ hq1 ?_)
  refine zk_iload dX7_leftAtWorst_44 rfl ?_
  refine zk_iload_n (i := 3) dX7_leftAtWorst_46 rfl rfl ?_
  refine zk_callSi zY_J6_bitCount_0f7a4 [_] dX7_leftAtWorst_47 zl_J6_bitCount_0f7a4 zc_X7_55 (fJint_bitCount_ok (d := 0) (Nat.le_refl _) mem _ _ rfl) (Nat.lt_of_lt_of_le (by decide) hd) (Nat.le_of_ble_eq_true rfl) ?_
  refine zk_iload dX7_leftAtWorst_50 rfl ?_
  refine zk_isub dX7_leftAtWorst_52 ?_
  refine zk_mmax dX7_leftAtWorst_53 zc_X7_61 zm_max (Nat.le_of_ble_eq_true rfl) ?_
  exact zk_ireturn dX7_leftAtWorst_56 rfl (zk_rI (Option.some.inj h))
set_option maxRecDepth 100000 in
set_option maxHeartbeats 4000000 in
theorem fRot_seekTrial_L24_ok {d : Nat} {Z : zkZ} (hd : 3 ≤ d)  : ∀ (n : Nat) (mem : zkM) (x2 : Int32) (x3 : Int32) (x4 : Int32) (x5 : Int32) (z : Int32 × zkM), fRot_seekTrial_L24 n mem x2 x3 x4 x5 = some z → zk_J zSX d zY_X7_seekTrial Z 69 [some (.ref 26), some (.ref 46), some (.int x2), some (.int z.1), some (.int x4), none, none] [] z.2 → zk_J zSX d zY_X7_seekTrial Z 24 [some (.ref 26), some (.ref 46), some (.int x2), some (.int x3), some (.int x4), some (.int x5), none] [] mem := by
  intro n
  induction n with
  | zero => intro mem x2 x3 x4 x5 z h; cases h
  | succ n ih =>
    intro mem x2 x3 x4 x5 z h he
    rw [fRot_seekTrial_L24] at h
    refine zk_iload dX7_seekTrial_24 rfl ?_
    refine zk_bipush dX7_seekTrial_26 zkb_40 ?_
    refine zk_icmp_gt 69 dX7_seekTrial_28 rfl (fun c6 => ?_) (fun c6 => ?_)
    · have h := zk_it _ h c6
      cases h
      exact zk_weak (zk_leS (zk_leS (zk_leS (zk_leS (zk_leS (zk_leN (zk_leN zk_leE))))))) he
    · have h := zk_if _ h c6
      refine zk_aload_n (i := 1) dX7_seekTrial_31 rfl rfl ?_
      refine zk_iload dX7_seekTrial_32 rfl ?_
      refine zk_iload dX7_seekTrial_34 rfl ?_
      refine zk_iload_n (i := 2) dX7_seekTrial_36 rfl rfl ?_
      obtain ⟨q1, hq1, h⟩ := zk_ob h
      refine zk_callSi zY_X7_leftAtWorst [_, _, _, _] dX7_seekTrial_37 zl_X7_leftAtWorst zc_X7_51 (fRot_leftAtWorst_ok (d := 1) (Nat.le_refl _) mem _ _ _ _ hq1) (Nat.lt_of_lt_of_le (by decide) hd) (Nat.le_of_ble_eq_true rfl) ?_
      refine zk_istore dX7_seekTrial_40 (Nat.le_of_ble_eq_true rfl) rfl ?_
      refine zk_iload dX7_seekTrial_42 rfl ?_
      refine zk_iload_n (i := 3) dX7_seekTrial_44 rfl rfl ?_
      obtain ⟨q2, hq2, h⟩ := zk_lt h
      have Jq2 : zk_J zSX d zY_X7_seekTrial Z 63 [some (.ref 26), some (.ref 46), some (.int x2), some (.int q2.1), some (.int x4), some (.int x5), none] [] q2.2 := by
        refine zk_iinc2 dX7_seekTrial_63 rfl zki_1 (Nat.le_of_ble_eq_true rfl) rfl ?_
        refine zk_goto 24 dX7_seekTrial_66 rfl ?_
        exact zk_weak (zk_leS (zk_leS (zk_leS (zk_leS (zk_leS (zk_leS (zk_leN zk_leE))))))) (ih q2.2 x2 q2.1 x4 (x5 + (1 : Int32)) _ h he)
      have h := hq2
      clear hq2
      refine zk_icmp_ge 63 dX7_seekTrial_45 rfl (fun c5 => ?_) (fun c5 => ?_)
      · have h := zk_it _ h c5
        subst h
        exact zk_weak (zk_leS (zk_leS (zk_leS (zk_leS (zk_leS (zk_leS (zk_leN zk_leE))))))) Jq2
      · have h := zk_if _ h c5
        refine zk_iload dX7_seekTrial_48 rfl ?_
        refine zk_istore_n (i := 3) dX7_seekTrial_50 rfl (Nat.le_of_ble_eq_true rfl) rfl ?_
        refine zk_aload_n (i := 0) dX7_seekTrial_51 rfl rfl ?_
        refine zk_iload dX7_seekTrial_52 rfl ?_
        obtain ⟨m3, em3, h⟩ := zk_lt h
        refine zk_putI' 26 7 1 dX7_seekTrial_54 zp_X7_15 (Nat.le_of_ble_eq_true rfl) rfl rfl em3 ?_
        refine zk_aload_n (i := 0) dX7_seekTrial_57 rfl rfl ?_
        refine zk_iload dX7_seekTrial_58 rfl ?_
        obtain ⟨m4, em4, h⟩ := zk_lt h
        refine zk_putI' 26 7 2 dX7_seekTrial_60 zp_X7_18 (Nat.le_of_ble_eq_true rfl) rfl rfl em4 ?_
        subst h
        exact zk_weak (zk_leS (zk_leS (zk_leS (zk_leS (zk_leS (zk_leS (zk_leN zk_leE))))))) Jq2
set_option maxRecDepth 100000 in
set_option maxHeartbeats 4000000 in
theorem fRot_seekTrial_L12_ok {d : Nat} {Z : zkZ} (hd : 3 ≤ d)  : ∀ (n : Nat) (mem : zkM) (x2 : Int32) (x3 : Int32) (x4 : Int32) (z : zkM), fRot_seekTrial_L12 n mem x2 x3 x4 = some z → zk_J zSX d zY_X7_seekTrial Z 75 [none, none, none, none, none, none, none] [] z → zk_J zSX d zY_X7_seekTrial Z 12 [some (.ref 26), some (.ref 46), some (.int x2), some (.int x3), some (.int x4), none, none] [] mem := by
  intro n
  induction n with
  | zero => intro mem x2 x3 x4 z h; cases h
  | succ n ih =>
    intro mem x2 x3 x4 z h he
    rw [fRot_seekTrial_L12] at h
    refine zk_iload dX7_seekTrial_12 rfl ?_
    refine zk_aload_n (i := 1) dX7_seekTrial_14 rfl rfl ?_
    refine zk_getI 46 10 1 dX7_seekTrial_15 zf_X7_31 (Nat.le_of_ble_eq_true rfl) rfl rfl ?_
    refine zk_icmp_ge 75 dX7_seekTrial_18 rfl (fun c2 => ?_) (fun c2 => ?_)
    · have h := zk_it _ h c2
      cases h
      exact zk_weak (zk_leN (zk_leN (zk_leN (zk_leN (zk_leN (zk_leN (zk_leN zk_leE))))))) he
    · have h := zk_if _ h c2
      refine zk_iconst dX7_seekTrial_21 zki_1 ?_
      refine zk_istore dX7_seekTrial_22 (Nat.le_of_ble_eq_true rfl) rfl ?_
      obtain ⟨q1, hq1, h⟩ := zk_ob h
      refine zk_weak (zk_leS (zk_leS (zk_leS (zk_leS (zk_leS (zk_leS (zk_leN zk_leE))))))) (fRot_seekTrial_L24_ok hd 500 mem x2 x3 x4 (1 : Int32) _ hq1 ?_)
      refine zk_iinc2 dX7_seekTrial_69 rfl zki_1 (Nat.le_of_ble_eq_true rfl) rfl ?_
      refine zk_goto 12 dX7_seekTrial_72 rfl ?_
      exact zk_weak (zk_leS (zk_leS (zk_leS (zk_leS (zk_leS (zk_leN (zk_leN zk_leE))))))) (ih q1.2 x2 q1.1 (x4 + (1 : Int32)) _ h he)
set_option maxRecDepth 100000 in
set_option maxHeartbeats 4000000 in
theorem fRot_seekTrial_ok {d : Nat} (hd : 3 ≤ d) (mem : zkM) (z : zkM) (h : fRot_seekTrial mem = some z) : zk_X zSX d zY_X7_seekTrial [.ref 26, .ref 46] mem (none, z) := by
  unfold fRot_seekTrial at h
  refine zk_meet (n := 5) (lv := [some (.ref 26), some (.ref 46), none, none, none, none, none]) zpn_X7 rfl (Nat.le_of_ble_eq_true rfl) ?_
  refine zk_aload_n (i := 0) dX7_seekTrial_0 rfl rfl ?_
  refine zk_aload_n (i := 1) dX7_seekTrial_1 rfl rfl ?_
  obtain ⟨q1, hq1, h⟩ := zk_ob h
  refine zk_callVi zY_X7_suspects 26 7 [_] dX7_seekTrial_2 zl_X7_suspects zc_X7_47 zk_ok7 (Nat.le_of_ble_eq_true rfl) rfl (fRot_suspects_ok (d := 2) (Nat.le_refl _) mem  _ hq1) (Nat.lt_of_lt_of_le (by decide) hd) (Nat.le_of_ble_eq_true rfl) ?_
  refine zk_istore_n (i := 2) dX7_seekTrial_5 rfl (Nat.le_of_ble_eq_true rfl) rfl ?_
  refine zk_bipush dX7_seekTrial_6 zkb_7 ?_
  refine zk_istore_n (i := 3) dX7_seekTrial_8 rfl (Nat.le_of_ble_eq_true rfl) rfl ?_
  refine zk_iconst dX7_seekTrial_9 zki_0 ?_
  refine zk_istore dX7_seekTrial_10 (Nat.le_of_ble_eq_true rfl) rfl ?_
  obtain ⟨q2, hq2, h⟩ := zk_ob h
  refine zk_weak (zk_leS (zk_leS (zk_leS (zk_leS (zk_leS (zk_leN (zk_leN zk_leE))))))) (fRot_seekTrial_L12_ok hd 500 mem q1 (7 : Int32) (0 : Int32) _ hq2 ?_)
  exact zk_vreturn dX7_seekTrial_75 rfl (zk_rVw (Option.some.inj h))
set_option maxRecDepth 100000 in
set_option maxHeartbeats 4000000 in
theorem fTp_ask_ok {d : Nat} (hd : 4 ≤ d) (mem : zkM) (a1 : Int32) (z : Int32 × zkM) (h : fTp_ask mem a1 = some z) : zk_X zSX d zY_X11_ask [.ref 0, .int a1] mem (some (.int z.1), z.2) := by
  unfold fTp_ask at h
  refine zk_meet (n := 0) (lv := [some (.ref 0), some (.int a1)]) zpn_X11 rfl (Nat.le_of_ble_eq_true rfl) ?_
  refine zk_iload_n (i := 1) dX11_ask_0 rfl rfl ?_
  refine zk_iconst dX11_ask_1 zki_0 ?_
  refine zk_iconst dX11_ask_2 zki_1 ?_
  refine zk_callSi zY_X11_within [_, _, _] dX11_ask_3 zl_X11_within zc_X11_93 (fTp_within_ok (d := 0) (Nat.le_refl _) mem _ _ _ _ rfl) (Nat.lt_of_lt_of_le (by decide) hd) (Nat.le_of_ble_eq_true rfl) ?_
  refine zk_if_ne 11 dX11_ask_6 rfl (fun c4 => ?_) (fun c4 => ?_)
  · have h := zk_if _ h c4
    refine zk_aload_n (i := 0) dX11_ask_11 rfl rfl ?_
    refine zk_getR 0 11 10 dX11_ask_12 zf_X11_82 (Nat.le_of_ble_eq_true rfl) rfl rfl ?_
    refine zk_getI 46 10 1 dX11_ask_15 zf_X11_283 (Nat.le_of_ble_eq_true rfl) rfl rfl ?_
    refine zk_if_ne 24 dX11_ask_18 rfl (fun c3 => ?_) (fun c3 => ?_)
    · have h := zk_if _ h c3
      refine zk_aload_n (i := 0) dX11_ask_24 rfl rfl ?_
      refine zk_getR 0 11 5 dX11_ask_25 zf_X11_47 (Nat.le_of_ble_eq_true rfl) rfl rfl ?_
      refine zk_aload_n (i := 0) dX11_ask_28 rfl rfl ?_
      refine zk_getR 0 11 10 dX11_ask_29 zf_X11_82 (Nat.le_of_ble_eq_true rfl) rfl rfl ?_
      obtain ⟨q1, hq1, h⟩ := zk_ob h
      refine zk_callVv zY_X7_seekTrial 26 7 [_] dX11_ask_32 zl_X7_seekTrial zc_X11_300 zk_ok7 (Nat.le_of_ble_eq_true rfl) rfl (fRot_seekTrial_ok (d := 3) (Nat.le_refl _) mem  _ hq1) (Nat.lt_of_lt_of_le (by decide) hd) (Nat.le_of_ble_eq_true rfl) ?_
      refine zk_iload_n (i := 1) dX11_ask_35 rfl rfl ?_
      refine zk_if_ne 49 dX11_ask_36 rfl (fun c2 => ?_) (fun c2 => ?_)
      · have h := zk_if _ h c2
        refine zk_aload_n (i := 0) dX11_ask_49 rfl rfl ?_
        refine zk_getR 0 11 5 dX11_ask_50 zf_X11_47 (Nat.le_of_ble_eq_true rfl) rfl rfl ?_
        refine zk_getI 26 7 2 dX11_ask_53 zf_X11_306 (Nat.le_of_ble_eq_true rfl) rfl rfl ?_
        exact zk_ireturn dX11_ask_56 rfl (zk_rIw (Option.some.inj h))
      · have h := zk_it _ h c2
        refine zk_aload_n (i := 0) dX11_ask_39 rfl rfl ?_
        refine zk_getR 0 11 5 dX11_ask_40 zf_X11_47 (Nat.le_of_ble_eq_true rfl) rfl rfl ?_
        refine zk_getI 26 7 1 dX11_ask_43 zf_X11_303 (Nat.le_of_ble_eq_true rfl) rfl rfl ?_
        refine zk_goto 56 dX11_ask_46 rfl ?_
        exact zk_ireturn dX11_ask_56 rfl (zk_rIw (Option.some.inj h))
    · have h := zk_it _ h c3
      refine zk_bipush dX11_ask_21 zkb_m9 ?_
      exact zk_ireturn dX11_ask_23 rfl (zk_rIw (Option.some.inj h))
  · have h := zk_it _ h c4
    refine zk_iconst dX11_ask_9 zki_m1 ?_
    exact zk_ireturn dX11_ask_10 rfl (zk_rIw (Option.some.inj h))
