set_option maxRecDepth 100000 in
set_option maxHeartbeats 4000000 in
theorem fTp_within_ok {d : Nat} (hd : 0 ≤ d) (mem : zkM) (a0 : Int32) (a1 : Int32) (a2 : Int32) (z : Bool) (h : fTp_within a0 a1 a2 = z) : zk_X zSX d zY_X11_within [.int a0, .int a1, .int a2] mem (some (.int (zk_b z)), mem) := by
  unfold fTp_within at h
  refine zk_meet (n := 0) (lv := [some (.int a0), some (.int a1), some (.int a2)]) zpn_X11 rfl (Nat.le_of_ble_eq_true rfl) ?_
  refine zk_iload_n (i := 0) dX11_within_0 rfl rfl ?_
  refine zk_iload_n (i := 1) dX11_within_1 rfl rfl ?_
  refine zk_icmp_lt 14 dX11_within_2 rfl (fun c2 => ?_) (fun c2 => ?_)
  · have h := zk_it _ h c2
    refine zk_iconst dX11_within_14 zki_0 ?_
    exact zk_zreturn dX11_within_15 rfl rfl (zk_rZ h)
  · have h := zk_if _ h c2
    refine zk_iload_n (i := 0) dX11_within_5 rfl rfl ?_
    refine zk_iload_n (i := 2) dX11_within_6 rfl rfl ?_
    refine zk_icmp_gt 14 dX11_within_7 rfl (fun c1 => ?_) (fun c1 => ?_)
    · have h := zk_it _ h c1
      refine zk_iconst dX11_within_14 zki_0 ?_
      exact zk_zreturn dX11_within_15 rfl rfl (zk_rZ h)
    · have h := zk_if _ h c1
      refine zk_iconst dX11_within_10 zki_1 ?_
      refine zk_goto 15 dX11_within_11 rfl ?_
      exact zk_zreturn dX11_within_15 rfl rfl (zk_rZ h)
set_option maxRecDepth 100000 in
set_option maxHeartbeats 4000000 in
theorem fScript_append_ok {d : Nat} (hd : 0 ≤ d) (mem : zkM) (a1 : Int32) (z : Bool × zkM) (h : fScript_append mem a1 = some z) : zk_X zSX d zY_X9_append [.ref 1, .int a1] mem (some (.int (zk_b z.1)), z.2) := by
  unfold fScript_append at h
  refine zk_meet (n := 0) (lv := [some (.ref 1), some (.int a1)]) zpn_X9 rfl (Nat.le_of_ble_eq_true rfl) ?_
  refine zk_aload_n (i := 0) dX9_append_0 rfl rfl ?_
  refine zk_getI 1 9 1 dX9_append_1 zf_X9_15 (Nat.le_of_ble_eq_true rfl) rfl rfl ?_
  refine zk_sipush dX9_append_4 zks_200 ?_
  refine zk_icmp_lt 12 dX9_append_7 rfl (fun c4 => ?_) (fun c4 => ?_)
  · have h := zk_it _ h c4
    refine zk_aload_n (i := 0) dX9_append_12 rfl rfl ?_
    refine zk_getR 1 9 0 dX9_append_13 zf_X9_9 (Nat.le_of_ble_eq_true rfl) rfl rfl ?_
    refine zk_aload_n (i := 0) dX9_append_16 rfl rfl ?_
    refine zk_getI 1 9 1 dX9_append_17 zf_X9_15 (Nat.le_of_ble_eq_true rfl) rfl rfl ?_
    refine zk_iload_n (i := 1) dX9_append_20 rfl rfl ?_
    obtain ⟨b1, h⟩ := zk_gd h
    obtain ⟨m2, em2, h⟩ := zk_lt h
    refine zk_iastore' 2 200 dX9_append_21 (Nat.le_of_ble_eq_true rfl) rfl (zk_inb_in b1) em2 ?_
    refine zk_aload_n (i := 0) dX9_append_22 rfl rfl ?_
    refine zk_dup dX9_append_23 rfl ?_
    refine zk_getI 1 9 1 dX9_append_24 zf_X9_15 (Nat.le_of_ble_eq_true rfl) rfl rfl ?_
    refine zk_iconst dX9_append_27 zki_1 ?_
    refine zk_iadd dX9_append_28 ?_
    obtain ⟨m3, em3, h⟩ := zk_lt h
    refine zk_putI' 1 9 1 dX9_append_29 zp_X9_15 (Nat.le_of_ble_eq_true rfl) rfl rfl em3 ?_
    refine zk_iconst dX9_append_32 zki_1 ?_
    exact zk_zreturn dX9_append_33 rfl rfl (zk_rZw (Option.some.inj h))
  · have h := zk_if _ h c4
    refine zk_iconst dX9_append_10 zki_0 ?_
    exact zk_zreturn dX9_append_11 rfl rfl (zk_rZw (Option.some.inj h))
set_option maxRecDepth 100000 in
set_option maxHeartbeats 4000000 in
theorem fTp_type_ok {d : Nat} (hd : 1 ≤ d) (mem : zkM) (a1 : Int32) (z : Int32 × zkM) (h : fTp_type mem a1 = some z) : zk_X zSX d zY_X11_type [.ref 0, .int a1] mem (some (.int z.1), z.2) := by
  unfold fTp_type at h
  refine zk_meet (n := 0) (lv := [some (.ref 0), some (.int a1)]) zpn_X11 rfl (Nat.le_of_ble_eq_true rfl) ?_
  refine zk_iload_n (i := 1) dX11_type_0 rfl rfl ?_
  refine zk_iconst dX11_type_1 zki_0 ?_
  refine zk_sipush dX11_type_2 zks_255 ?_
  refine zk_callSi zY_X11_within [_, _, _] dX11_type_5 zl_X11_within zc_X11_93 (fTp_within_ok (d := 0) (Nat.le_refl _) mem _ _ _ _ rfl) (Nat.lt_of_lt_of_le (by decide) hd) (Nat.le_of_ble_eq_true rfl) ?_
  refine zk_if_ne 13 dX11_type_8 rfl (fun c3 => ?_) (fun c3 => ?_)
  · have h := zk_if _ h c3
    refine zk_aload_n (i := 0) dX11_type_13 rfl rfl ?_
    refine zk_getR 0 11 0 dX11_type_14 zf_X11_10 (Nat.le_of_ble_eq_true rfl) rfl rfl ?_
    refine zk_iload_n (i := 1) dX11_type_17 rfl rfl ?_
    obtain ⟨q1, hq1, h⟩ := zk_ob h
    refine zk_callVi zY_X9_append 1 9 [_] dX11_type_18 zl_X9_append zc_X11_97 zk_ok9 (Nat.le_of_ble_eq_true rfl) rfl (fScript_append_ok (d := 0) (Nat.le_refl _) mem _ _ hq1) (Nat.lt_of_lt_of_le (by decide) hd) (Nat.le_of_ble_eq_true rfl) ?_
    refine zk_if_eq 34 dX11_type_21 rfl (fun c2 => ?_) (fun c2 => ?_)
    · have h := zk_it _ h c2
      refine zk_bipush dX11_type_34 zkb_m3 ?_
      exact zk_ireturn dX11_type_36 rfl (zk_rIw (Option.some.inj h))
    · have h := zk_if _ h c2
      refine zk_aload_n (i := 0) dX11_type_24 rfl rfl ?_
      refine zk_getR 0 11 0 dX11_type_25 zf_X11_10 (Nat.le_of_ble_eq_true rfl) rfl rfl ?_
      refine zk_getI 1 9 1 dX11_type_28 zf_X11_101 (Nat.le_of_ble_eq_true rfl) rfl rfl ?_
      refine zk_goto 36 dX11_type_31 rfl ?_
      exact zk_ireturn dX11_type_36 rfl (zk_rIw (Option.some.inj h))
  · have h := zk_it _ h c3
    refine zk_iconst dX11_type_11 zki_m1 ?_
    exact zk_ireturn dX11_type_12 rfl (zk_rIw (Option.some.inj h))
set_option maxRecDepth 100000 in
set_option maxHeartbeats 4000000 in
theorem fTp_clear_ok {d : Nat} (hd : 0 ≤ d) (mem : zkM) (z : Int32 × zkM) (h : fTp_clear mem = z) : zk_X zSX d zY_X11_clear [.ref 0] mem (some (.int z.1), z.2) := by
  unfold fTp_clear at h
  refine zk_meet (n := 1) (lv := [some (.ref 0), none]) zpn_X11 rfl (Nat.le_of_ble_eq_true rfl) ?_
  refine zk_aload_n (i := 0) dX11_clear_0 rfl rfl ?_
  refine zk_getR 0 11 0 dX11_clear_1 zf_X11_10 (Nat.le_of_ble_eq_true rfl) rfl rfl ?_
  refine zk_getI 1 9 1 dX11_clear_4 zf_X11_101 (Nat.le_of_ble_eq_true rfl) rfl rfl ?_
  obtain ⟨v1, ev1, h⟩ := zk_lt h
  refine zk_istore_n' (i := 1) dX11_clear_7 rfl ev1 (Nat.le_of_ble_eq_true rfl) rfl ?_
  refine zk_aload_n (i := 0) dX11_clear_8 rfl rfl ?_
  refine zk_getR 0 11 0 dX11_clear_9 zf_X11_10 (Nat.le_of_ble_eq_true rfl) rfl rfl ?_
  refine zk_iconst dX11_clear_12 zki_0 ?_
  obtain ⟨m2, em2, h⟩ := zk_lt h
  refine zk_putI' 1 9 1 dX11_clear_13 zp_X11_101 (Nat.le_of_ble_eq_true rfl) rfl rfl em2 ?_
  refine zk_iload_n (i := 1) dX11_clear_16 rfl rfl ?_
  exact zk_ireturn dX11_clear_17 rfl (zk_rIw h)
set_option maxRecDepth 100000 in
set_option maxHeartbeats 4000000 in
theorem fBurden_empty_L2_ok {d : Nat} {Z : zkZ} (hd : 0 ≤ d)  : ∀ (n : Nat) (mem : zkM) (x1 : Int32) (z : zkM), fBurden_empty_L2 n mem x1 = some z → zk_J zSX d zY_X1_empty Z 21 [some (.ref 6), none] [] z → zk_J zSX d zY_X1_empty Z 2 [some (.ref 6), some (.int x1)] [] mem := by
  intro n
  induction n with
  | zero => intro mem x1 z h; cases h
  | succ n ih =>
    intro mem x1 z h he
    rw [fBurden_empty_L2] at h
    refine zk_iload_n (i := 1) dX1_empty_2 rfl rfl ?_
    refine zk_bipush dX1_empty_3 zkb_6 ?_
    refine zk_icmp_ge 21 dX1_empty_5 rfl (fun c3 => ?_) (fun c3 => ?_)
    · have h := zk_it _ h c3
      cases h
      exact zk_weak (zk_leS (zk_leN zk_leE)) he
    · have h := zk_if _ h c3
      refine zk_aload_n (i := 0) dX1_empty_8 rfl rfl ?_
      refine zk_getR 6 1 0 dX1_empty_9 zf_X1_9 (Nat.le_of_ble_eq_true rfl) rfl rfl ?_
      refine zk_iload_n (i := 1) dX1_empty_12 rfl rfl ?_
      refine zk_iconst dX1_empty_13 zki_0 ?_
      obtain ⟨b1, h⟩ := zk_gd h
      obtain ⟨m2, em2, h⟩ := zk_lt h
      refine zk_iastore' 7 6 dX1_empty_14 (Nat.le_of_ble_eq_true rfl) rfl (zk_inb_in b1) em2 ?_
      refine zk_iinc2 dX1_empty_15 rfl zki_1 (Nat.le_of_ble_eq_true rfl) rfl ?_
      refine zk_goto 2 dX1_empty_18 rfl ?_
      exact zk_weak (zk_leS (zk_leS zk_leE)) (ih m2 (x1 + (1 : Int32)) _ h he)
set_option maxRecDepth 100000 in
set_option maxHeartbeats 4000000 in
theorem fBurden_empty_L23_ok {d : Nat} {Z : zkZ} (hd : 0 ≤ d)  : ∀ (n : Nat) (mem : zkM) (x1 : Int32) (z : zkM), fBurden_empty_L23 n mem x1 = some z → zk_J zSX d zY_X1_empty Z 42 [none, none] [] z → zk_J zSX d zY_X1_empty Z 23 [some (.ref 6), some (.int x1)] [] mem := by
  intro n
  induction n with
  | zero => intro mem x1 z h; cases h
  | succ n ih =>
    intro mem x1 z h he
    rw [fBurden_empty_L23] at h
    refine zk_iload_n (i := 1) dX1_empty_23 rfl rfl ?_
    refine zk_bipush dX1_empty_24 zkb_8 ?_
    refine zk_icmp_ge 42 dX1_empty_26 rfl (fun c3 => ?_) (fun c3 => ?_)
    · have h := zk_it _ h c3
      cases h
      exact zk_weak (zk_leN (zk_leN zk_leE)) he
    · have h := zk_if _ h c3
      refine zk_aload_n (i := 0) dX1_empty_29 rfl rfl ?_
      refine zk_getR 6 1 1 dX1_empty_30 zf_X1_15 (Nat.le_of_ble_eq_true rfl) rfl rfl ?_
      refine zk_iload_n (i := 1) dX1_empty_33 rfl rfl ?_
      refine zk_iconst dX1_empty_34 zki_0 ?_
      obtain ⟨b1, h⟩ := zk_gd h
      obtain ⟨m2, em2, h⟩ := zk_lt h
      refine zk_iastore' 8 8 dX1_empty_35 (Nat.le_of_ble_eq_true rfl) rfl (zk_inb_in b1) em2 ?_
      refine zk_iinc2 dX1_empty_36 rfl zki_1 (Nat.le_of_ble_eq_true rfl) rfl ?_
      refine zk_goto 23 dX1_empty_39 rfl ?_
      exact zk_weak (zk_leS (zk_leS zk_leE)) (ih m2 (x1 + (1 : Int32)) _ h he)
set_option maxRecDepth 100000 in
set_option maxHeartbeats 4000000 in
theorem fBurden_empty_ok {d : Nat} (hd : 0 ≤ d) (mem : zkM) (z : zkM) (h : fBurden_empty mem = some z) : zk_X zSX d zY_X1_empty [.ref 6] mem (none, z) := by
  unfold fBurden_empty at h
  refine zk_meet (n := 1) (lv := [some (.ref 6), none]) zpn_X1 rfl (Nat.le_of_ble_eq_true rfl) ?_
  refine zk_iconst dX1_empty_0 zki_0 ?_
  refine zk_istore_n (i := 1) dX1_empty_1 rfl (Nat.le_of_ble_eq_true rfl) rfl ?_
  obtain ⟨q1, hq1, h⟩ := zk_ob h
  refine zk_weak (zk_leS (zk_leS zk_leE)) (fBurden_empty_L2_ok hd 500 mem (0 : Int32) _ hq1 ?_)
  refine zk_iconst dX1_empty_21 zki_0 ?_
  refine zk_istore_n (i := 1) dX1_empty_22 rfl (Nat.le_of_ble_eq_true rfl) rfl ?_
  obtain ⟨q2, hq2, h⟩ := zk_ob h
  refine zk_weak (zk_leS (zk_leS zk_leE)) (fBurden_empty_L23_ok hd 500 q1 (0 : Int32) _ hq2 ?_)
  exact zk_vreturn dX1_empty_42 rfl (zk_rVw (Option.some.inj h))
set_option maxRecDepth 100000 in
set_option maxHeartbeats 4000000 in
theorem fScene_plankUnder_ok {d : Nat} (hd : 0 ≤ d) (mem : zkM) (a1 : Int32) (z : Int32) (h : fScene_plankUnder mem a1 = some z) : zk_X zSX d zY_X8_plankUnder [.ref 4, .int a1] mem (some (.int z), mem) := by
  unfold fScene_plankUnder at h
  refine zk_meet (n := 0) (lv := [some (.ref 4), some (.int a1)]) zpn_X8 rfl (Nat.le_of_ble_eq_true rfl) ?_
  refine zk_aload_n (i := 0) dX8_plankUnder_0 rfl rfl ?_
  refine zk_getR 4 8 0 dX8_plankUnder_1 zf_X8_11 (Nat.le_of_ble_eq_true rfl) rfl rfl ?_
  refine zk_iload_n (i := 1) dX8_plankUnder_4 rfl rfl ?_
  obtain ⟨b1, h⟩ := zk_gd h
  refine zk_iaload 5 42 dX8_plankUnder_5 (Nat.le_of_ble_eq_true rfl) rfl (zk_inb_in b1) ?_
  exact zk_ireturn dX8_plankUnder_6 rfl (zk_rI (Option.some.inj h))
set_option maxRecDepth 100000 in
set_option maxHeartbeats 4000000 in
theorem fBurden_add_ok {d : Nat} (hd : 0 ≤ d) (mem : zkM) (a2 : Int32) (a3 : Int32) (z : zkM) (h : fBurden_add mem a2 a3 = some z) : zk_X zSX d zY_X1_add [.ref 6, .ref 46, .int a2, .int a3] mem (none, z) := by
  unfold fBurden_add at h
  refine zk_meet (n := 2) (lv := [some (.ref 6), some (.ref 46), some (.int a2), some (.int a3), none, none]) zpn_X1 rfl (Nat.le_of_ble_eq_true rfl) ?_
  refine zk_aload_n (i := 1) dX1_add_0 rfl rfl ?_
  refine zk_getR 46 10 7 dX1_add_1 zf_X1_47 (Nat.le_of_ble_eq_true rfl) rfl rfl ?_
  refine zk_iconst dX1_add_4 zki_2 ?_
  refine zk_iload_n (i := 2) dX1_add_5 rfl rfl ?_
  refine zk_imul dX1_add_6 ?_
  obtain ⟨b1, h⟩ := zk_gd h
  refine zk_iaload 51 12 dX1_add_7 (Nat.le_of_ble_eq_true rfl) rfl (zk_inb_in b1) ?_
  obtain ⟨v2, ev2, h⟩ := zk_lt h
  refine zk_istore' dX1_add_8 ev2 (Nat.le_of_ble_eq_true rfl) rfl ?_
  refine zk_aload_n (i := 1) dX1_add_10 rfl rfl ?_
  refine zk_getR 46 10 7 dX1_add_11 zf_X1_47 (Nat.le_of_ble_eq_true rfl) rfl rfl ?_
  refine zk_iconst dX1_add_14 zki_2 ?_
  refine zk_iload_n (i := 2) dX1_add_15 rfl rfl ?_
  refine zk_imul dX1_add_16 ?_
  refine zk_iconst dX1_add_17 zki_1 ?_
  refine zk_iadd dX1_add_18 ?_
  obtain ⟨b3, h⟩ := zk_gd h
  refine zk_iaload 51 12 dX1_add_19 (Nat.le_of_ble_eq_true rfl) rfl (zk_inb_in b3) ?_
  obtain ⟨v4, ev4, h⟩ := zk_lt h
  refine zk_istore' dX1_add_20 ev4 (Nat.le_of_ble_eq_true rfl) rfl ?_
  refine zk_aload_n (i := 0) dX1_add_22 rfl rfl ?_
  refine zk_getR 6 1 1 dX1_add_23 zf_X1_15 (Nat.le_of_ble_eq_true rfl) rfl rfl ?_
  refine zk_iload dX1_add_26 rfl ?_
  refine zk_dup2 dX1_add_28 rfl rfl ?_
  obtain ⟨b5, h⟩ := zk_gd h
  refine zk_iaload 8 8 dX1_add_29 (Nat.le_of_ble_eq_true rfl) rfl (zk_inb_in b5) ?_
  refine zk_aload_n (i := 0) dX1_add_30 rfl rfl ?_
  refine zk_getR 6 1 0 dX1_add_31 zf_X1_9 (Nat.le_of_ble_eq_true rfl) rfl rfl ?_
  refine zk_iload_n (i := 2) dX1_add_34 rfl rfl ?_
  obtain ⟨b6, h⟩ := zk_gd h
  refine zk_iaload 7 6 dX1_add_35 (Nat.le_of_ble_eq_true rfl) rfl (zk_inb_in b6) ?_
  refine zk_aload_n (i := 0) dX1_add_36 rfl rfl ?_
  refine zk_getR 6 1 0 dX1_add_37 zf_X1_9 (Nat.le_of_ble_eq_true rfl) rfl rfl ?_
  refine zk_iload_n (i := 2) dX1_add_40 rfl rfl ?_
  obtain ⟨b7, h⟩ := zk_gd h
  refine zk_iaload 7 6 dX1_add_41 (Nat.le_of_ble_eq_true rfl) rfl (zk_inb_in b7) ?_
  refine zk_iconst dX1_add_42 zki_2 ?_
  refine zk_idiv dX1_add_43 (by decide) ?_
  refine zk_isub dX1_add_44 ?_
  refine zk_isub dX1_add_45 ?_
  obtain ⟨b8, h⟩ := zk_gd h
  obtain ⟨m9, em9, h⟩ := zk_lt h
  refine zk_iastore' 8 8 dX1_add_46 (Nat.le_of_ble_eq_true rfl) rfl (zk_inb_in b8) em9 ?_
  refine zk_aload_n (i := 0) dX1_add_47 rfl rfl ?_
  refine zk_getR 6 1 1 dX1_add_48 zf_X1_15 (Nat.le_of_ble_eq_true rfl) rfl rfl ?_
  refine zk_iload dX1_add_51 rfl ?_
  refine zk_dup2 dX1_add_53 rfl rfl ?_
  obtain ⟨b10, h⟩ := zk_gd h
  refine zk_iaload 8 8 dX1_add_54 (Nat.le_of_ble_eq_true rfl) rfl (zk_inb_in b10) ?_
  refine zk_aload_n (i := 0) dX1_add_55 rfl rfl ?_
  refine zk_getR 6 1 0 dX1_add_56 zf_X1_9 (Nat.le_of_ble_eq_true rfl) rfl rfl ?_
  refine zk_iload_n (i := 2) dX1_add_59 rfl rfl ?_
  obtain ⟨b11, h⟩ := zk_gd h
  refine zk_iaload 7 6 dX1_add_60 (Nat.le_of_ble_eq_true rfl) rfl (zk_inb_in b11) ?_
  refine zk_iconst dX1_add_61 zki_2 ?_
  refine zk_idiv dX1_add_62 (by decide) ?_
  refine zk_isub dX1_add_63 ?_
  obtain ⟨b12, h⟩ := zk_gd h
  obtain ⟨m13, em13, h⟩ := zk_lt h
  refine zk_iastore' 8 8 dX1_add_64 (Nat.le_of_ble_eq_true rfl) rfl (zk_inb_in b12) em13 ?_
  refine zk_aload_n (i := 0) dX1_add_65 rfl rfl ?_
  refine zk_getR 6 1 0 dX1_add_66 zf_X1_9 (Nat.le_of_ble_eq_true rfl) rfl rfl ?_
  refine zk_iload_n (i := 2) dX1_add_69 rfl rfl ?_
  refine zk_dup2 dX1_add_70 rfl rfl ?_
  obtain ⟨b14, h⟩ := zk_gd h
  refine zk_iaload 7 6 dX1_add_71 (Nat.le_of_ble_eq_true rfl) rfl (zk_inb_in b14) ?_
  refine zk_iload_n (i := 3) dX1_add_72 rfl rfl ?_
  refine zk_iadd dX1_add_73 ?_
  obtain ⟨b15, h⟩ := zk_gd h
  obtain ⟨m16, em16, h⟩ := zk_lt h
  refine zk_iastore' 7 6 dX1_add_74 (Nat.le_of_ble_eq_true rfl) rfl (zk_inb_in b15) em16 ?_
  refine zk_aload_n (i := 0) dX1_add_75 rfl rfl ?_
  refine zk_getR 6 1 1 dX1_add_76 zf_X1_15 (Nat.le_of_ble_eq_true rfl) rfl rfl ?_
  refine zk_iload dX1_add_79 rfl ?_
  refine zk_dup2 dX1_add_81 rfl rfl ?_
  obtain ⟨b17, h⟩ := zk_gd h
  refine zk_iaload 8 8 dX1_add_82 (Nat.le_of_ble_eq_true rfl) rfl (zk_inb_in b17) ?_
  refine zk_aload_n (i := 0) dX1_add_83 rfl rfl ?_
  refine zk_getR 6 1 0 dX1_add_84 zf_X1_9 (Nat.le_of_ble_eq_true rfl) rfl rfl ?_
  refine zk_iload_n (i := 2) dX1_add_87 rfl rfl ?_
  obtain ⟨b18, h⟩ := zk_gd h
  refine zk_iaload 7 6 dX1_add_88 (Nat.le_of_ble_eq_true rfl) rfl (zk_inb_in b18) ?_
  refine zk_aload_n (i := 0) dX1_add_89 rfl rfl ?_
  refine zk_getR 6 1 0 dX1_add_90 zf_X1_9 (Nat.le_of_ble_eq_true rfl) rfl rfl ?_
  refine zk_iload_n (i := 2) dX1_add_93 rfl rfl ?_
  obtain ⟨b19, h⟩ := zk_gd h
  refine zk_iaload 7 6 dX1_add_94 (Nat.le_of_ble_eq_true rfl) rfl (zk_inb_in b19) ?_
  refine zk_iconst dX1_add_95 zki_2 ?_
  refine zk_idiv dX1_add_96 (by decide) ?_
  refine zk_isub dX1_add_97 ?_
  refine zk_iadd dX1_add_98 ?_
  obtain ⟨b20, h⟩ := zk_gd h
  obtain ⟨m21, em21, h⟩ := zk_lt h
  refine zk_iastore' 8 8 dX1_add_99 (Nat.le_of_ble_eq_true rfl) rfl (zk_inb_in b20) em21 ?_
  refine zk_aload_n (i := 0) dX1_add_100 rfl rfl ?_
  refine zk_getR 6 1 1 dX1_add_101 zf_X1_15 (Nat.le_of_ble_eq_true rfl) rfl rfl ?_
  refine zk_iload dX1_add_104 rfl ?_
  refine zk_dup2 dX1_add_106 rfl rfl ?_
  obtain ⟨b22, h⟩ := zk_gd h
  refine zk_iaload 8 8 dX1_add_107 (Nat.le_of_ble_eq_true rfl) rfl (zk_inb_in b22) ?_
  refine zk_aload_n (i := 0) dX1_add_108 rfl rfl ?_
  refine zk_getR 6 1 0 dX1_add_109 zf_X1_9 (Nat.le_of_ble_eq_true rfl) rfl rfl ?_
  refine zk_iload_n (i := 2) dX1_add_112 rfl rfl ?_
  obtain ⟨b23, h⟩ := zk_gd h
  refine zk_iaload 7 6 dX1_add_113 (Nat.le_of_ble_eq_true rfl) rfl (zk_inb_in b23) ?_
  refine zk_iconst dX1_add_114 zki_2 ?_
  refine zk_idiv dX1_add_115 (by decide) ?_
  refine zk_iadd dX1_add_116 ?_
  obtain ⟨b24, h⟩ := zk_gd h
  obtain ⟨m25, em25, h⟩ := zk_lt h
  refine zk_iastore' 8 8 dX1_add_117 (Nat.le_of_ble_eq_true rfl) rfl (zk_inb_in b24) em25 ?_
  exact zk_vreturn dX1_add_118 rfl (zk_rVw (Option.some.inj h))
set_option maxRecDepth 100000 in
set_option maxHeartbeats 4000000 in
theorem fBurden_weigh_L6_ok {d : Nat} {Z : zkZ} (hd : 1 ≤ d)  : ∀ (n : Nat) (mem : zkM) (x3 : Int32) (z : zkM), fBurden_weigh_L6 n mem x3 = some z → zk_J zSX d zY_X1_weigh Z 55 [none, none, none, none, none] [] z → zk_J zSX d zY_X1_weigh Z 6 [some (.ref 6), some (.ref 46), some (.ref 4), some (.int x3), none] [] mem := by
  intro n
  induction n with
  | zero => intro mem x3 z h; cases h
  | succ n ih =>
    intro mem x3 z h he
    rw [fBurden_weigh_L6] at h
    refine zk_iload_n (i := 3) dX1_weigh_6 rfl rfl ?_
    refine zk_aload_n (i := 1) dX1_weigh_7 rfl rfl ?_
    refine zk_getI 46 10 2 dX1_weigh_8 zf_X1_21 (Nat.le_of_ble_eq_true rfl) rfl rfl ?_
    refine zk_icmp_ge 55 dX1_weigh_11 rfl (fun c6 => ?_) (fun c6 => ?_)
    · have h := zk_it _ h c6
      cases h
      exact zk_weak (zk_leN (zk_leN (zk_leN (zk_leN (zk_leN zk_leE))))) he
    · have h := zk_if _ h c6
      refine zk_aload_n (i := 2) dX1_weigh_14 rfl rfl ?_
      refine zk_iload_n (i := 3) dX1_weigh_15 rfl rfl ?_
      obtain ⟨q1, hq1, h⟩ := zk_ob h
      refine zk_callVi zY_X8_plankUnder 4 8 [_] dX1_weigh_16 zl_X8_plankUnder zc_X1_27 zk_ok8 (Nat.le_of_ble_eq_true rfl) rfl (fScene_plankUnder_ok (d := 0) (Nat.le_refl _) mem _ _ hq1) (Nat.lt_of_lt_of_le (by decide) hd) (Nat.le_of_ble_eq_true rfl) ?_
      refine zk_istore dX1_weigh_19 (Nat.le_of_ble_eq_true rfl) rfl ?_
      refine zk_iload dX1_weigh_21 rfl ?_
      refine zk_iconst dX1_weigh_23 zki_0 ?_
      refine zk_aload_n (i := 1) dX1_weigh_24 rfl rfl ?_
      refine zk_getI 46 10 1 dX1_weigh_25 zf_X1_33 (Nat.le_of_ble_eq_true rfl) rfl rfl ?_
      refine zk_iconst dX1_weigh_28 zki_1 ?_
      refine zk_isub dX1_weigh_29 ?_
      refine zk_callNi zY_X11_within [_, _, _] dX1_weigh_30 zl_X11_within zc_X1_36 (fTp_within_ok (d := 0) (Nat.le_refl _) mem _ _ _ _ rfl) (Nat.lt_of_lt_of_le (by decide) hd) (Nat.le_of_ble_eq_true rfl) ?_
      obtain ⟨q2, hq2, h⟩ := zk_ob h
      have Jq2 : zk_J zSX d zY_X1_weigh Z 49 [some (.ref 6), some (.ref 46), some (.ref 4), some (.int x3), none] [] q2 := by
        refine zk_iinc2 dX1_weigh_49 rfl zki_1 (Nat.le_of_ble_eq_true rfl) rfl ?_
        refine zk_goto 6 dX1_weigh_52 rfl ?_
        exact zk_weak (zk_leS (zk_leS (zk_leS (zk_leS (zk_leN zk_leE))))) (ih q2 (x3 + (1 : Int32)) _ h he)
      have h := hq2
      clear hq2
      refine zk_if_eq 49 dX1_weigh_33 rfl (fun c5 => ?_) (fun c5 => ?_)
      · have h := zk_it _ h c5
        cases h
        exact zk_weak (zk_leS (zk_leS (zk_leS (zk_leS (zk_leN zk_leE))))) Jq2
      · have h := zk_if _ h c5
        refine zk_aload_n (i := 0) dX1_weigh_36 rfl rfl ?_
        refine zk_aload_n (i := 1) dX1_weigh_37 rfl rfl ?_
        refine zk_iload dX1_weigh_38 rfl ?_
        refine zk_aload_n (i := 1) dX1_weigh_40 rfl rfl ?_
        refine zk_getR 46 10 9 dX1_weigh_41 zf_X1_40 (Nat.le_of_ble_eq_true rfl) rfl rfl ?_
        refine zk_iload_n (i := 3) dX1_weigh_44 rfl rfl ?_
        obtain ⟨b3, h⟩ := zk_gd h
        refine zk_iaload 53 5 dX1_weigh_45 (Nat.le_of_ble_eq_true rfl) rfl (zk_inb_in b3) ?_
        obtain ⟨q4, hq4, h⟩ := zk_ob h
        refine zk_callVv zY_X1_add 6 1 [_, _, _] dX1_weigh_46 zl_X1_add zc_X1_43 zk_ok1 (Nat.le_of_ble_eq_true rfl) rfl (fBurden_add_ok (d := 0) (Nat.le_refl _) mem _ _ _ hq4) (Nat.lt_of_lt_of_le (by decide) hd) (Nat.le_of_ble_eq_true rfl) ?_
        cases h
        exact zk_weak (zk_leS (zk_leS (zk_leS (zk_leS (zk_leN zk_leE))))) Jq2
set_option maxRecDepth 100000 in
set_option maxHeartbeats 4000000 in
theorem fBurden_weigh_ok {d : Nat} (hd : 1 ≤ d) (mem : zkM) (z : zkM) (h : fBurden_weigh mem = some z) : zk_X zSX d zY_X1_weigh [.ref 6, .ref 46, .ref 4] mem (none, z) := by
  unfold fBurden_weigh at h
  refine zk_meet (n := 2) (lv := [some (.ref 6), some (.ref 46), some (.ref 4), none, none]) zpn_X1 rfl (Nat.le_of_ble_eq_true rfl) ?_
  refine zk_aload_n (i := 0) dX1_weigh_0 rfl rfl ?_
  obtain ⟨q1, hq1, h⟩ := zk_ob h
  refine zk_callVv zY_X1_empty 6 1 [] dX1_weigh_1 zl_X1_empty zc_X1_18 zk_ok1 (Nat.le_of_ble_eq_true rfl) rfl (fBurden_empty_ok (d := 0) (Nat.le_refl _) mem  _ hq1) (Nat.lt_of_lt_of_le (by decide) hd) (Nat.le_of_ble_eq_true rfl) ?_
  refine zk_iconst dX1_weigh_4 zki_0 ?_
  refine zk_istore_n (i := 3) dX1_weigh_5 rfl (Nat.le_of_ble_eq_true rfl) rfl ?_
  obtain ⟨q2, hq2, h⟩ := zk_ob h
  refine zk_weak (zk_leS (zk_leS (zk_leS (zk_leS (zk_leN zk_leE))))) (fBurden_weigh_L6_ok hd 500 q1 (0 : Int32) _ hq2 ?_)
  exact zk_vreturn dX1_weigh_55 rfl (zk_rVw (Option.some.inj h))
set_option maxRecDepth 100000 in
set_option maxHeartbeats 4000000 in
theorem fTp_bough_ok {d : Nat} (hd : 2 ≤ d) (mem : zkM) (a1 : Int32) (a2 : Int32) (z : Int32 × zkM) (h : fTp_bough mem a1 a2 = some z) : zk_X zSX d zY_X11_bough [.ref 0, .int a1, .int a2] mem (some (.int z.1), z.2) := by
  unfold fTp_bough at h
  refine zk_meet (n := 0) (lv := [some (.ref 0), some (.int a1), some (.int a2)]) zpn_X11 rfl (Nat.le_of_ble_eq_true rfl) ?_
  refine zk_iload_n (i := 1) dX11_bough_0 rfl rfl ?_
  refine zk_iconst dX11_bough_1 zki_0 ?_
  refine zk_aload_n (i := 0) dX11_bough_2 rfl rfl ?_
  refine zk_getR 0 11 10 dX11_bough_3 zf_X11_82 (Nat.le_of_ble_eq_true rfl) rfl rfl ?_
  refine zk_getI 46 10 0 dX11_bough_6 zf_X11_120 (Nat.le_of_ble_eq_true rfl) rfl rfl ?_
  refine zk_iconst dX11_bough_9 zki_1 ?_
  refine zk_isub dX11_bough_10 ?_
  refine zk_callSi zY_X11_within [_, _, _] dX11_bough_11 zl_X11_within zc_X11_93 (fTp_within_ok (d := 0) (Nat.le_refl _) mem _ _ _ _ rfl) (Nat.lt_of_lt_of_le (by decide) hd) (Nat.le_of_ble_eq_true rfl) ?_
  refine zk_if_ne 19 dX11_bough_14 rfl (fun c10 => ?_) (fun c10 => ?_)
  · have h := zk_if _ h c10
    refine zk_iload_n (i := 2) dX11_bough_19 rfl rfl ?_
    rcases Decidable.em (a2 = (0 : Int32)) with c1 | c1
    · have h := zk_it _ h c1
      refine zk_tin (off := 32) 52 dX11_bough_20 c1 (by decide) (by decide) (by decide) rfl ?_
      refine zk_aload_n (i := 0) dX11_bough_52 rfl rfl ?_
      refine zk_getR 0 11 10 dX11_bough_53 zf_X11_82 (Nat.le_of_ble_eq_true rfl) rfl rfl ?_
      refine zk_getR 46 10 3 dX11_bough_56 zf_X11_123 (Nat.le_of_ble_eq_true rfl) rfl rfl ?_
      refine zk_iload_n (i := 1) dX11_bough_59 rfl rfl ?_
      obtain ⟨b2, h⟩ := zk_gd h
      refine zk_iaload 47 8 dX11_bough_60 (Nat.le_of_ble_eq_true rfl) rfl (zk_inb_in b2) ?_
      exact zk_ireturn dX11_bough_61 rfl (zk_rIw (Option.some.inj h))
    · have h := zk_if _ h c1
      rcases Decidable.em (a2 = (1 : Int32)) with c3 | c3
      · have h := zk_it _ h c3
        refine zk_tin (off := 42) 62 dX11_bough_20 c3 (by decide) (by decide) (by decide) rfl ?_
        refine zk_aload_n (i := 0) dX11_bough_62 rfl rfl ?_
        refine zk_getR 0 11 10 dX11_bough_63 zf_X11_82 (Nat.le_of_ble_eq_true rfl) rfl rfl ?_
        refine zk_getR 46 10 4 dX11_bough_66 zf_X11_127 (Nat.le_of_ble_eq_true rfl) rfl rfl ?_
        refine zk_iload_n (i := 1) dX11_bough_69 rfl rfl ?_
        obtain ⟨b4, h⟩ := zk_gd h
        refine zk_iaload 48 8 dX11_bough_70 (Nat.le_of_ble_eq_true rfl) rfl (zk_inb_in b4) ?_
        exact zk_ireturn dX11_bough_71 rfl (zk_rIw (Option.some.inj h))
      · have h := zk_if _ h c3
        rcases Decidable.em (a2 = (2 : Int32)) with c5 | c5
        · have h := zk_it _ h c5
          refine zk_tin (off := 52) 72 dX11_bough_20 c5 (by decide) (by decide) (by decide) rfl ?_
          refine zk_aload_n (i := 0) dX11_bough_72 rfl rfl ?_
          refine zk_getR 0 11 10 dX11_bough_73 zf_X11_82 (Nat.le_of_ble_eq_true rfl) rfl rfl ?_
          refine zk_getR 46 10 5 dX11_bough_76 zf_X11_130 (Nat.le_of_ble_eq_true rfl) rfl rfl ?_
          refine zk_iload_n (i := 1) dX11_bough_79 rfl rfl ?_
          obtain ⟨b6, h⟩ := zk_gd h
          refine zk_iaload 49 8 dX11_bough_80 (Nat.le_of_ble_eq_true rfl) rfl (zk_inb_in b6) ?_
          exact zk_ireturn dX11_bough_81 rfl (zk_rIw (Option.some.inj h))
        · have h := zk_if _ h c5
          rcases Decidable.em (a2 = (3 : Int32)) with c7 | c7
          · have h := zk_it _ h c7
            refine zk_tin (off := 62) 82 dX11_bough_20 c7 (by decide) (by decide) (by decide) rfl ?_
            refine zk_aload_n (i := 0) dX11_bough_82 rfl rfl ?_
            refine zk_getR 0 11 2 dX11_bough_83 zf_X11_26 (Nat.le_of_ble_eq_true rfl) rfl rfl ?_
            refine zk_aload_n (i := 0) dX11_bough_86 rfl rfl ?_
            refine zk_getR 0 11 10 dX11_bough_87 zf_X11_82 (Nat.le_of_ble_eq_true rfl) rfl rfl ?_
            refine zk_aload_n (i := 0) dX11_bough_90 rfl rfl ?_
            refine zk_getR 0 11 1 dX11_bough_91 zf_X11_19 (Nat.le_of_ble_eq_true rfl) rfl rfl ?_
            obtain ⟨q8, hq8, h⟩ := zk_ob h
            refine zk_callVv zY_X1_weigh 6 1 [_, _] dX11_bough_94 zl_X1_weigh zc_X11_133 zk_ok1 (Nat.le_of_ble_eq_true rfl) rfl (fBurden_weigh_ok (d := 1) (Nat.le_refl _) mem  _ hq8) (Nat.lt_of_lt_of_le (by decide) hd) (Nat.le_of_ble_eq_true rfl) ?_
            refine zk_aload_n (i := 0) dX11_bough_97 rfl rfl ?_
            refine zk_getR 0 11 2 dX11_bough_98 zf_X11_26 (Nat.le_of_ble_eq_true rfl) rfl rfl ?_
            refine zk_getR 6 1 1 dX11_bough_101 zf_X11_137 (Nat.le_of_ble_eq_true rfl) rfl rfl ?_
            refine zk_iload_n (i := 1) dX11_bough_104 rfl rfl ?_
            obtain ⟨b9, h⟩ := zk_gd h
            refine zk_iaload 8 8 dX11_bough_105 (Nat.le_of_ble_eq_true rfl) rfl (zk_inb_in b9) ?_
            exact zk_ireturn dX11_bough_106 rfl (zk_rIw (Option.some.inj h))
          · have h := zk_if _ h c7
            have hout : (a2).toInt < 0 ∨ 3 < (a2).toInt := by
              have := lv_neT c1 (a := 0) (by decide)
              have := lv_neT c3 (a := 1) (by decide)
              have := lv_neT c5 (a := 2) (by decide)
              have := lv_neT c7 (a := 3) (by decide)
              omega
            refine zk_tout 107 dX11_bough_20 hout rfl ?_
            refine zk_iconst dX11_bough_107 zki_m1 ?_
            exact zk_ireturn dX11_bough_108 rfl (zk_rIw (Option.some.inj h))
  · have h := zk_it _ h c10
    refine zk_iconst dX11_bough_17 zki_m1 ?_
    exact zk_ireturn dX11_bough_18 rfl (zk_rIw (Option.some.inj h))
set_option maxRecDepth 100000 in
set_option maxHeartbeats 4000000 in
theorem fTp_isPlank_ok {d : Nat} (hd : 1 ≤ d) (mem : zkM) (a1 : Int32) (z : Bool) (h : fTp_isPlank mem a1 = z) : zk_X zSX d zY_X11_isPlank [.ref 0, .int a1] mem (some (.int (zk_b z)), mem) := by
  unfold fTp_isPlank at h
  refine zk_meet (n := 0) (lv := [some (.ref 0), some (.int a1)]) zpn_X11 rfl (Nat.le_of_ble_eq_true rfl) ?_
  refine zk_iload_n (i := 1) dX11_isPlank_0 rfl rfl ?_
  refine zk_iconst dX11_isPlank_1 zki_0 ?_
  refine zk_aload_n (i := 0) dX11_isPlank_2 rfl rfl ?_
  refine zk_getR 0 11 10 dX11_isPlank_3 zf_X11_82 (Nat.le_of_ble_eq_true rfl) rfl rfl ?_
  refine zk_getI 46 10 1 dX11_isPlank_6 zf_X11_283 (Nat.le_of_ble_eq_true rfl) rfl rfl ?_
  refine zk_iconst dX11_isPlank_9 zki_1 ?_
  refine zk_isub dX11_isPlank_10 ?_
  refine zk_callSi zY_X11_within [_, _, _] dX11_isPlank_11 zl_X11_within zc_X11_93 (fTp_within_ok (d := 0) (Nat.le_refl _) mem _ _ _ _ rfl) (Nat.lt_of_lt_of_le (by decide) hd) (Nat.le_of_ble_eq_true rfl) ?_
  exact zk_zreturn dX11_isPlank_14 rfl (zk_nb _) (zk_rZ h)
set_option maxRecDepth 100000 in
set_option maxHeartbeats 4000000 in
theorem fTp_plank_ok {d : Nat} (hd : 2 ≤ d) (mem : zkM) (a1 : Int32) (a2 : Int32) (z : Int32 × zkM) (h : fTp_plank mem a1 a2 = some z) : zk_X zSX d zY_X11_plank [.ref 0, .int a1, .int a2] mem (some (.int z.1), z.2) := by
  unfold fTp_plank at h
  refine zk_meet (n := 0) (lv := [some (.ref 0), some (.int a1), some (.int a2)]) zpn_X11 rfl (Nat.le_of_ble_eq_true rfl) ?_
  refine zk_aload_n (i := 0) dX11_plank_0 rfl rfl ?_
  refine zk_iload_n (i := 1) dX11_plank_1 rfl rfl ?_
  refine zk_callVi zY_X11_isPlank 0 11 [_] dX11_plank_2 zl_X11_isPlank zc_X11_140 zk_ok11 (Nat.le_of_ble_eq_true rfl) rfl (fTp_isPlank_ok (d := 1) (Nat.le_refl _) mem _ _ rfl) (Nat.lt_of_lt_of_le (by decide) hd) (Nat.le_of_ble_eq_true rfl) ?_
  refine zk_if_ne 10 dX11_plank_5 rfl (fun c10 => ?_) (fun c10 => ?_)
  · have h := zk_if _ h c10
    refine zk_iload_n (i := 2) dX11_plank_10 rfl rfl ?_
    rcases Decidable.em (a2 = (0 : Int32)) with c1 | c1
    · have h := zk_it _ h c1
      refine zk_tin (off := 29) 40 dX11_plank_11 c1 (by decide) (by decide) (by decide) rfl ?_
      refine zk_aload_n (i := 0) dX11_plank_40 rfl rfl ?_
      refine zk_getR 0 11 10 dX11_plank_41 zf_X11_82 (Nat.le_of_ble_eq_true rfl) rfl rfl ?_
      refine zk_getR 46 10 7 dX11_plank_44 zf_X11_143 (Nat.le_of_ble_eq_true rfl) rfl rfl ?_
      refine zk_iconst dX11_plank_47 zki_2 ?_
      refine zk_iload_n (i := 1) dX11_plank_48 rfl rfl ?_
      refine zk_imul dX11_plank_49 ?_
      obtain ⟨b2, h⟩ := zk_gd h
      refine zk_iaload 51 12 dX11_plank_50 (Nat.le_of_ble_eq_true rfl) rfl (zk_inb_in b2) ?_
      exact zk_ireturn dX11_plank_51 rfl (zk_rIw (Option.some.inj h))
    · have h := zk_if _ h c1
      rcases Decidable.em (a2 = (1 : Int32)) with c3 | c3
      · have h := zk_it _ h c3
        refine zk_tin (off := 41) 52 dX11_plank_11 c3 (by decide) (by decide) (by decide) rfl ?_
        refine zk_aload_n (i := 0) dX11_plank_52 rfl rfl ?_
        refine zk_getR 0 11 10 dX11_plank_53 zf_X11_82 (Nat.le_of_ble_eq_true rfl) rfl rfl ?_
        refine zk_getR 46 10 7 dX11_plank_56 zf_X11_143 (Nat.le_of_ble_eq_true rfl) rfl rfl ?_
        refine zk_iconst dX11_plank_59 zki_2 ?_
        refine zk_iload_n (i := 1) dX11_plank_60 rfl rfl ?_
        refine zk_imul dX11_plank_61 ?_
        refine zk_iconst dX11_plank_62 zki_1 ?_
        refine zk_iadd dX11_plank_63 ?_
        obtain ⟨b4, h⟩ := zk_gd h
        refine zk_iaload 51 12 dX11_plank_64 (Nat.le_of_ble_eq_true rfl) rfl (zk_inb_in b4) ?_
        exact zk_ireturn dX11_plank_65 rfl (zk_rIw (Option.some.inj h))
      · have h := zk_if _ h c3
        rcases Decidable.em (a2 = (2 : Int32)) with c5 | c5
        · have h := zk_it _ h c5
          refine zk_tin (off := 55) 66 dX11_plank_11 c5 (by decide) (by decide) (by decide) rfl ?_
          refine zk_aload_n (i := 0) dX11_plank_66 rfl rfl ?_
          refine zk_getR 0 11 10 dX11_plank_67 zf_X11_82 (Nat.le_of_ble_eq_true rfl) rfl rfl ?_
          refine zk_getR 46 10 6 dX11_plank_70 zf_X11_146 (Nat.le_of_ble_eq_true rfl) rfl rfl ?_
          refine zk_iload_n (i := 1) dX11_plank_73 rfl rfl ?_
          obtain ⟨b6, h⟩ := zk_gd h
          refine zk_iaload 50 6 dX11_plank_74 (Nat.le_of_ble_eq_true rfl) rfl (zk_inb_in b6) ?_
          exact zk_ireturn dX11_plank_75 rfl (zk_rIw (Option.some.inj h))
        · have h := zk_if _ h c5
          rcases Decidable.em (a2 = (3 : Int32)) with c7 | c7
          · have h := zk_it _ h c7
            refine zk_tin (off := 65) 76 dX11_plank_11 c7 (by decide) (by decide) (by decide) rfl ?_
            refine zk_aload_n (i := 0) dX11_plank_76 rfl rfl ?_
            refine zk_getR 0 11 2 dX11_plank_77 zf_X11_26 (Nat.le_of_ble_eq_true rfl) rfl rfl ?_
            refine zk_aload_n (i := 0) dX11_plank_80 rfl rfl ?_
            refine zk_getR 0 11 10 dX11_plank_81 zf_X11_82 (Nat.le_of_ble_eq_true rfl) rfl rfl ?_
            refine zk_aload_n (i := 0) dX11_plank_84 rfl rfl ?_
            refine zk_getR 0 11 1 dX11_plank_85 zf_X11_19 (Nat.le_of_ble_eq_true rfl) rfl rfl ?_
            obtain ⟨q8, hq8, h⟩ := zk_ob h
            refine zk_callVv zY_X1_weigh 6 1 [_, _] dX11_plank_88 zl_X1_weigh zc_X11_133 zk_ok1 (Nat.le_of_ble_eq_true rfl) rfl (fBurden_weigh_ok (d := 1) (Nat.le_refl _) mem  _ hq8) (Nat.lt_of_lt_of_le (by decide) hd) (Nat.le_of_ble_eq_true rfl) ?_
            refine zk_aload_n (i := 0) dX11_plank_91 rfl rfl ?_
            refine zk_getR 0 11 2 dX11_plank_92 zf_X11_26 (Nat.le_of_ble_eq_true rfl) rfl rfl ?_
            refine zk_getR 6 1 0 dX11_plank_95 zf_X11_149 (Nat.le_of_ble_eq_true rfl) rfl rfl ?_
            refine zk_iload_n (i := 1) dX11_plank_98 rfl rfl ?_
            obtain ⟨b9, h⟩ := zk_gd h
            refine zk_iaload 7 6 dX11_plank_99 (Nat.le_of_ble_eq_true rfl) rfl (zk_inb_in b9) ?_
            exact zk_ireturn dX11_plank_100 rfl (zk_rIw (Option.some.inj h))
          · have h := zk_if _ h c7
            have hout : (a2).toInt < 0 ∨ 3 < (a2).toInt := by
              have := lv_neT c1 (a := 0) (by decide)
              have := lv_neT c3 (a := 1) (by decide)
              have := lv_neT c5 (a := 2) (by decide)
              have := lv_neT c7 (a := 3) (by decide)
              omega
            refine zk_tout 101 dX11_plank_11 hout rfl ?_
            refine zk_iconst dX11_plank_101 zki_m1 ?_
            exact zk_ireturn dX11_plank_102 rfl (zk_rIw (Option.some.inj h))
  · have h := zk_it _ h c10
    refine zk_iconst dX11_plank_8 zki_m1 ?_
    exact zk_ireturn dX11_plank_9 rfl (zk_rIw (Option.some.inj h))
set_option maxRecDepth 100000 in
set_option maxHeartbeats 4000000 in
theorem fTp_isEnd_ok {d : Nat} (hd : 2 ≤ d) (mem : zkM) (a1 : Int32) (a2 : Int32) (z : Bool) (h : fTp_isEnd mem a1 a2 = z) : zk_X zSX d zY_X11_isEnd [.ref 0, .int a1, .int a2] mem (some (.int (zk_b z)), mem) := by
  unfold fTp_isEnd at h
  refine zk_meet (n := 0) (lv := [some (.ref 0), some (.int a1), some (.int a2)]) zpn_X11 rfl (Nat.le_of_ble_eq_true rfl) ?_
  refine zk_aload_n (i := 0) dX11_isEnd_0 rfl rfl ?_
  refine zk_iload_n (i := 1) dX11_isEnd_1 rfl rfl ?_
  refine zk_callVi zY_X11_isPlank 0 11 [_] dX11_isEnd_2 zl_X11_isPlank zc_X11_140 zk_ok11 (Nat.le_of_ble_eq_true rfl) rfl (fTp_isPlank_ok (d := 1) (Nat.le_refl _) mem _ _ rfl) (Nat.lt_of_lt_of_le (by decide) hd) (Nat.le_of_ble_eq_true rfl) ?_
  refine zk_if_eq 21 dX11_isEnd_5 rfl (fun c2 => ?_) (fun c2 => ?_)
  · have h := zk_it _ h c2
    refine zk_iconst dX11_isEnd_21 zki_0 ?_
    exact zk_zreturn dX11_isEnd_22 rfl rfl (zk_rZ h)
  · have h := zk_if _ h c2
    refine zk_iload_n (i := 2) dX11_isEnd_8 rfl rfl ?_
    refine zk_iconst dX11_isEnd_9 zki_0 ?_
    refine zk_iconst dX11_isEnd_10 zki_1 ?_
    refine zk_callSi zY_X11_within [_, _, _] dX11_isEnd_11 zl_X11_within zc_X11_93 (fTp_within_ok (d := 0) (Nat.le_refl _) mem _ _ _ _ rfl) (Nat.lt_of_lt_of_le (by decide) hd) (Nat.le_of_ble_eq_true rfl) ?_
    refine zk_if_eq 21 dX11_isEnd_14 rfl (fun c1 => ?_) (fun c1 => ?_)
    · have h := zk_it _ h c1
      refine zk_iconst dX11_isEnd_21 zki_0 ?_
      exact zk_zreturn dX11_isEnd_22 rfl rfl (zk_rZ h)
    · have h := zk_if _ h c1
      refine zk_iconst dX11_isEnd_17 zki_1 ?_
      refine zk_goto 22 dX11_isEnd_18 rfl ?_
      exact zk_zreturn dX11_isEnd_22 rfl rfl (zk_rZ h)
set_option maxRecDepth 100000 in
set_option maxHeartbeats 4000000 in
theorem fScene_kindOf_ok {d : Nat} (hd : 0 ≤ d) (mem : zkM) (a1 : Int32) (z : Int32) (h : fScene_kindOf mem a1 = some z) : zk_X zSX d zY_X8_kindOf [.ref 4, .int a1] mem (some (.int z), mem) := by
  unfold fScene_kindOf at h
  refine zk_meet (n := 0) (lv := [some (.ref 4), some (.int a1)]) zpn_X8 rfl (Nat.le_of_ble_eq_true rfl) ?_
  refine zk_aload_n (i := 0) dX8_kindOf_0 rfl rfl ?_
  refine zk_getR 4 8 0 dX8_kindOf_1 zf_X8_11 (Nat.le_of_ble_eq_true rfl) rfl rfl ?_
  refine zk_iconst dX8_kindOf_4 zki_5 ?_
  refine zk_iload_n (i := 1) dX8_kindOf_5 rfl rfl ?_
  refine zk_iadd dX8_kindOf_6 ?_
  obtain ⟨b1, h⟩ := zk_gd h
  refine zk_iaload 5 42 dX8_kindOf_7 (Nat.le_of_ble_eq_true rfl) rfl (zk_inb_in b1) ?_
  exact zk_ireturn dX8_kindOf_8 rfl (zk_rI (Option.some.inj h))
set_option maxRecDepth 100000 in
set_option maxHeartbeats 4000000 in
theorem fScene_wearOf_ok {d : Nat} (hd : 0 ≤ d) (mem : zkM) (a1 : Int32) (z : Int32) (h : fScene_wearOf mem a1 = some z) : zk_X zSX d zY_X8_wearOf [.ref 4, .int a1] mem (some (.int z), mem) := by
  unfold fScene_wearOf at h
  refine zk_meet (n := 0) (lv := [some (.ref 4), some (.int a1)]) zpn_X8 rfl (Nat.le_of_ble_eq_true rfl) ?_
  refine zk_aload_n (i := 0) dX8_wearOf_0 rfl rfl ?_
  refine zk_getR 4 8 0 dX8_wearOf_1 zf_X8_11 (Nat.le_of_ble_eq_true rfl) rfl rfl ?_
  refine zk_bipush dX8_wearOf_4 zkb_17 ?_
  refine zk_iload_n (i := 1) dX8_wearOf_6 rfl rfl ?_
  refine zk_iadd dX8_wearOf_7 ?_
  obtain ⟨b1, h⟩ := zk_gd h
  refine zk_iaload 5 42 dX8_wearOf_8 (Nat.le_of_ble_eq_true rfl) rfl (zk_inb_in b1) ?_
  exact zk_ireturn dX8_wearOf_9 rfl (zk_rI (Option.some.inj h))
set_option maxRecDepth 100000 in
set_option maxHeartbeats 4000000 in
theorem fScene_isOut_ok {d : Nat} (hd : 0 ≤ d) (mem : zkM) (a1 : Int32) (z : Bool) (h : fScene_isOut mem a1 = some z) : zk_X zSX d zY_X8_isOut [.ref 4, .int a1] mem (some (.int (zk_b z)), mem) := by
  unfold fScene_isOut at h
  refine zk_meet (n := 0) (lv := [some (.ref 4), some (.int a1)]) zpn_X8 rfl (Nat.le_of_ble_eq_true rfl) ?_
  refine zk_aload_n (i := 0) dX8_isOut_0 rfl rfl ?_
  refine zk_getR 4 8 0 dX8_isOut_1 zf_X8_11 (Nat.le_of_ble_eq_true rfl) rfl rfl ?_
  refine zk_bipush dX8_isOut_4 zkb_29 ?_
  refine zk_iload_n (i := 1) dX8_isOut_6 rfl rfl ?_
  refine zk_iadd dX8_isOut_7 ?_
  obtain ⟨b1, h⟩ := zk_gd h
  refine zk_iaload 5 42 dX8_isOut_8 (Nat.le_of_ble_eq_true rfl) rfl (zk_inb_in b1) ?_
  refine zk_if_eq 16 dX8_isOut_9 rfl (fun c2 => ?_) (fun c2 => ?_)
  · have h := zk_it _ h c2
    refine zk_iconst dX8_isOut_16 zki_0 ?_
    exact zk_zreturn dX8_isOut_17 rfl rfl (zk_rZ (Option.some.inj h))
  · have h := zk_if _ h c2
    refine zk_iconst dX8_isOut_12 zki_1 ?_
    refine zk_goto 17 dX8_isOut_13 rfl ?_
    exact zk_zreturn dX8_isOut_17 rfl rfl (zk_rZ (Option.some.inj h))
set_option maxRecDepth 100000 in
set_option maxHeartbeats 4000000 in
theorem fTp_end_ok {d : Nat} (hd : 3 ≤ d) (mem : zkM) (a1 : Int32) (a2 : Int32) (a3 : Int32) (z : Int32) (h : fTp_end mem a1 a2 a3 = some z) : zk_X zSX d zY_X11_end [.ref 0, .int a1, .int a2, .int a3] mem (some (.int z), mem) := by
  unfold fTp_end at h
  refine zk_meet (n := 1) (lv := [some (.ref 0), some (.int a1), some (.int a2), some (.int a3), none]) zpn_X11 rfl (Nat.le_of_ble_eq_true rfl) ?_
  refine zk_aload_n (i := 0) dX11_end_0 rfl rfl ?_
  refine zk_iload_n (i := 1) dX11_end_1 rfl rfl ?_
  refine zk_iload_n (i := 2) dX11_end_2 rfl rfl ?_
  refine zk_callVi zY_X11_isEnd 0 11 [_, _] dX11_end_3 zl_X11_isEnd zc_X11_152 zk_ok11 (Nat.le_of_ble_eq_true rfl) rfl (fTp_isEnd_ok (d := 2) (Nat.le_refl _) mem _ _ _ rfl) (Nat.lt_of_lt_of_le (by decide) hd) (Nat.le_of_ble_eq_true rfl) ?_
  refine zk_if_ne 11 dX11_end_6 rfl (fun c9 => ?_) (fun c9 => ?_)
  · have h := zk_if _ h c9
    refine zk_iconst dX11_end_11 zki_2 ?_
    refine zk_iload_n (i := 1) dX11_end_12 rfl rfl ?_
    refine zk_imul dX11_end_13 ?_
    refine zk_iload_n (i := 2) dX11_end_14 rfl rfl ?_
    refine zk_iadd dX11_end_15 ?_
    obtain ⟨v1, ev1, h⟩ := zk_lt h
    refine zk_istore' dX11_end_16 ev1 (Nat.le_of_ble_eq_true rfl) rfl ?_
    refine zk_iload_n (i := 3) dX11_end_18 rfl rfl ?_
    rcases Decidable.em (a3 = (0 : Int32)) with c2 | c2
    · have h := zk_it _ h c2
      refine zk_tin (off := 25) 44 dX11_end_19 c2 (by decide) (by decide) (by decide) rfl ?_
      refine zk_aload_n (i := 0) dX11_end_44 rfl rfl ?_
      refine zk_getR 0 11 1 dX11_end_45 zf_X11_19 (Nat.le_of_ble_eq_true rfl) rfl rfl ?_
      refine zk_iload dX11_end_48 rfl ?_
      obtain ⟨q3, hq3, h⟩ := zk_ob h
      refine zk_callVi zY_X8_kindOf 4 8 [_] dX11_end_50 zl_X8_kindOf zc_X11_156 zk_ok8 (Nat.le_of_ble_eq_true rfl) rfl (fScene_kindOf_ok (d := 0) (Nat.le_refl _) mem _ _ hq3) (Nat.lt_of_lt_of_le (by decide) hd) (Nat.le_of_ble_eq_true rfl) ?_
      exact zk_ireturn dX11_end_53 rfl (zk_rI (Option.some.inj h))
    · have h := zk_if _ h c2
      rcases Decidable.em (a3 = (1 : Int32)) with c4 | c4
      · have h := zk_it _ h c4
        refine zk_tin (off := 35) 54 dX11_end_19 c4 (by decide) (by decide) (by decide) rfl ?_
        refine zk_aload_n (i := 0) dX11_end_54 rfl rfl ?_
        refine zk_getR 0 11 1 dX11_end_55 zf_X11_19 (Nat.le_of_ble_eq_true rfl) rfl rfl ?_
        refine zk_iload dX11_end_58 rfl ?_
        obtain ⟨q5, hq5, h⟩ := zk_ob h
        refine zk_callVi zY_X8_wearOf 4 8 [_] dX11_end_60 zl_X8_wearOf zc_X11_160 zk_ok8 (Nat.le_of_ble_eq_true rfl) rfl (fScene_wearOf_ok (d := 0) (Nat.le_refl _) mem _ _ hq5) (Nat.lt_of_lt_of_le (by decide) hd) (Nat.le_of_ble_eq_true rfl) ?_
        exact zk_ireturn dX11_end_63 rfl (zk_rI (Option.some.inj h))
      · have h := zk_if _ h c4
        rcases Decidable.em (a3 = (2 : Int32)) with c6 | c6
        · have h := zk_it _ h c6
          refine zk_tin (off := 45) 64 dX11_end_19 c6 (by decide) (by decide) (by decide) rfl ?_
          refine zk_aload_n (i := 0) dX11_end_64 rfl rfl ?_
          refine zk_getR 0 11 1 dX11_end_65 zf_X11_19 (Nat.le_of_ble_eq_true rfl) rfl rfl ?_
          refine zk_iload dX11_end_68 rfl ?_
          obtain ⟨q7, hq7, h⟩ := zk_ob h
          refine zk_callVi zY_X8_isOut 4 8 [_] dX11_end_70 zl_X8_isOut zc_X11_163 zk_ok8 (Nat.le_of_ble_eq_true rfl) rfl (fScene_isOut_ok (d := 0) (Nat.le_refl _) mem _ _ hq7) (Nat.lt_of_lt_of_le (by decide) hd) (Nat.le_of_ble_eq_true rfl) ?_
          refine zk_if_eq 80 dX11_end_73 rfl (fun c8 => ?_) (fun c8 => ?_)
          · have h := zk_it _ h c8
            refine zk_iconst dX11_end_80 zki_0 ?_
            exact zk_ireturn dX11_end_81 rfl (zk_rI (Option.some.inj h))
          · have h := zk_if _ h c8
            refine zk_iconst dX11_end_76 zki_1 ?_
            refine zk_goto 81 dX11_end_77 rfl ?_
            exact zk_ireturn dX11_end_81 rfl (zk_rI (Option.some.inj h))
        · have h := zk_if _ h c6
          have hout : (a3).toInt < 0 ∨ 2 < (a3).toInt := by
            have := lv_neT c2 (a := 0) (by decide)
            have := lv_neT c4 (a := 1) (by decide)
            have := lv_neT c6 (a := 2) (by decide)
            omega
          refine zk_tout 82 dX11_end_19 hout rfl ?_
          refine zk_iconst dX11_end_82 zki_m1 ?_
          exact zk_ireturn dX11_end_83 rfl (zk_rI (Option.some.inj h))
  · have h := zk_it _ h c9
    refine zk_iconst dX11_end_9 zki_m1 ?_
    exact zk_ireturn dX11_end_10 rfl (zk_rI (Option.some.inj h))
set_option maxRecDepth 100000 in
set_option maxHeartbeats 4000000 in
theorem fTp_isChild_ok {d : Nat} (hd : 1 ≤ d) (mem : zkM) (a1 : Int32) (z : Bool) (h : fTp_isChild mem a1 = z) : zk_X zSX d zY_X11_isChild [.ref 0, .int a1] mem (some (.int (zk_b z)), mem) := by
  unfold fTp_isChild at h
  refine zk_meet (n := 0) (lv := [some (.ref 0), some (.int a1)]) zpn_X11 rfl (Nat.le_of_ble_eq_true rfl) ?_
  refine zk_iload_n (i := 1) dX11_isChild_0 rfl rfl ?_
  refine zk_iconst dX11_isChild_1 zki_0 ?_
  refine zk_aload_n (i := 0) dX11_isChild_2 rfl rfl ?_
  refine zk_getR 0 11 10 dX11_isChild_3 zf_X11_82 (Nat.le_of_ble_eq_true rfl) rfl rfl ?_
  refine zk_getI 46 10 2 dX11_isChild_6 zf_X11_336 (Nat.le_of_ble_eq_true rfl) rfl rfl ?_
  refine zk_iconst dX11_isChild_9 zki_1 ?_
  refine zk_isub dX11_isChild_10 ?_
  refine zk_callSi zY_X11_within [_, _, _] dX11_isChild_11 zl_X11_within zc_X11_93 (fTp_within_ok (d := 0) (Nat.le_refl _) mem _ _ _ _ rfl) (Nat.lt_of_lt_of_le (by decide) hd) (Nat.le_of_ble_eq_true rfl) ?_
  exact zk_zreturn dX11_isChild_14 rfl (zk_nb _) (zk_rZ h)
set_option maxRecDepth 100000 in
set_option maxHeartbeats 4000000 in
theorem fTp_child_ok {d : Nat} (hd : 2 ≤ d) (mem : zkM) (a1 : Int32) (a2 : Int32) (z : Int32) (h : fTp_child mem a1 a2 = some z) : zk_X zSX d zY_X11_child [.ref 0, .int a1, .int a2] mem (some (.int z), mem) := by
  unfold fTp_child at h
  refine zk_meet (n := 0) (lv := [some (.ref 0), some (.int a1), some (.int a2)]) zpn_X11 rfl (Nat.le_of_ble_eq_true rfl) ?_
  refine zk_aload_n (i := 0) dX11_child_0 rfl rfl ?_
  refine zk_iload_n (i := 1) dX11_child_1 rfl rfl ?_
  refine zk_callVi zY_X11_isChild 0 11 [_] dX11_child_2 zl_X11_isChild zc_X11_166 zk_ok11 (Nat.le_of_ble_eq_true rfl) rfl (fTp_isChild_ok (d := 1) (Nat.le_refl _) mem _ _ rfl) (Nat.lt_of_lt_of_le (by decide) hd) (Nat.le_of_ble_eq_true rfl) ?_
  refine zk_if_ne 10 dX11_child_5 rfl (fun c7 => ?_) (fun c7 => ?_)
  · have h := zk_if _ h c7
    refine zk_iload_n (i := 2) dX11_child_10 rfl rfl ?_
    rcases Decidable.em (a2 = (0 : Int32)) with c1 | c1
    · have h := zk_it _ h c1
      refine zk_tin (off := 25) 36 dX11_child_11 c1 (by decide) (by decide) (by decide) rfl ?_
      refine zk_aload_n (i := 0) dX11_child_36 rfl rfl ?_
      refine zk_getR 0 11 10 dX11_child_37 zf_X11_82 (Nat.le_of_ble_eq_true rfl) rfl rfl ?_
      refine zk_getR 46 10 9 dX11_child_40 zf_X11_169 (Nat.le_of_ble_eq_true rfl) rfl rfl ?_
      refine zk_iload_n (i := 1) dX11_child_43 rfl rfl ?_
      obtain ⟨b2, h⟩ := zk_gd h
      refine zk_iaload 53 5 dX11_child_44 (Nat.le_of_ble_eq_true rfl) rfl (zk_inb_in b2) ?_
      exact zk_ireturn dX11_child_45 rfl (zk_rI (Option.some.inj h))
    · have h := zk_if _ h c1
      rcases Decidable.em (a2 = (1 : Int32)) with c3 | c3
      · have h := zk_it _ h c3
        refine zk_tin (off := 35) 46 dX11_child_11 c3 (by decide) (by decide) (by decide) rfl ?_
        refine zk_aload_n (i := 0) dX11_child_46 rfl rfl ?_
        refine zk_getR 0 11 10 dX11_child_47 zf_X11_82 (Nat.le_of_ble_eq_true rfl) rfl rfl ?_
        refine zk_getR 46 10 10 dX11_child_50 zf_X11_172 (Nat.le_of_ble_eq_true rfl) rfl rfl ?_
        refine zk_iload_n (i := 1) dX11_child_53 rfl rfl ?_
        obtain ⟨b4, h⟩ := zk_gd h
        refine zk_iaload 54 5 dX11_child_54 (Nat.le_of_ble_eq_true rfl) rfl (zk_inb_in b4) ?_
        exact zk_ireturn dX11_child_55 rfl (zk_rI (Option.some.inj h))
      · have h := zk_if _ h c3
        rcases Decidable.em (a2 = (2 : Int32)) with c5 | c5
        · have h := zk_it _ h c5
          refine zk_tin (off := 45) 56 dX11_child_11 c5 (by decide) (by decide) (by decide) rfl ?_
          refine zk_aload_n (i := 0) dX11_child_56 rfl rfl ?_
          refine zk_getR 0 11 1 dX11_child_57 zf_X11_19 (Nat.le_of_ble_eq_true rfl) rfl rfl ?_
          refine zk_iload_n (i := 1) dX11_child_60 rfl rfl ?_
          obtain ⟨q6, hq6, h⟩ := zk_ob h
          refine zk_callVi zY_X8_plankUnder 4 8 [_] dX11_child_61 zl_X8_plankUnder zc_X11_175 zk_ok8 (Nat.le_of_ble_eq_true rfl) rfl (fScene_plankUnder_ok (d := 0) (Nat.le_refl _) mem _ _ hq6) (Nat.lt_of_lt_of_le (by decide) hd) (Nat.le_of_ble_eq_true rfl) ?_
          exact zk_ireturn dX11_child_64 rfl (zk_rI (Option.some.inj h))
        · have h := zk_if _ h c5
          have hout : (a2).toInt < 0 ∨ 2 < (a2).toInt := by
            have := lv_neT c1 (a := 0) (by decide)
            have := lv_neT c3 (a := 1) (by decide)
            have := lv_neT c5 (a := 2) (by decide)
            omega
          refine zk_tout 65 dX11_child_11 hout rfl ?_
          refine zk_iconst dX11_child_65 zki_m1 ?_
          exact zk_ireturn dX11_child_66 rfl (zk_rI (Option.some.inj h))
  · have h := zk_it _ h c7
    refine zk_iconst dX11_child_8 zki_m1 ?_
    exact zk_ireturn dX11_child_9 rfl (zk_rI (Option.some.inj h))
set_option maxRecDepth 100000 in
set_option maxHeartbeats 4000000 in
theorem fBurden_firstTooLaden_L2_ok {d : Nat} {r : Option Value × zkM} (hd : 0 ≤ d)  : ∀ (n : Nat) (mem : zkM) (x2 : Int32) (z : (Int32) ⊕ (Unit)), fBurden_firstTooLaden_L2 n mem x2 = some z → (∀ y, z = .inl y → (some (.int y), mem) = r) → (∀ z', z = .inr z' → zk_J zSX d zY_X1_firstTooLaden (zk_R zSX r) 33 [none, none, none] [] mem) → zk_J zSX d zY_X1_firstTooLaden (zk_R zSX r) 2 [some (.ref 6), some (.ref 46), some (.int x2)] [] mem := by
  intro n
  induction n with
  | zero => intro mem x2 z h; cases h
  | succ n ih =>
    intro mem x2 z h hr he
    rw [fBurden_firstTooLaden_L2] at h
    refine zk_iload_n (i := 2) dX1_firstTooLaden_2 rfl rfl ?_
    refine zk_aload_n (i := 1) dX1_firstTooLaden_3 rfl rfl ?_
    refine zk_getI 46 10 1 dX1_firstTooLaden_4 zf_X1_33 (Nat.le_of_ble_eq_true rfl) rfl rfl ?_
    refine zk_icmp_ge 33 dX1_firstTooLaden_7 rfl (fun c4 => ?_) (fun c4 => ?_)
    · have h := zk_it _ h c4
      exact zk_weak (zk_leN (zk_leN (zk_leN zk_leE))) (he _ (Option.some.inj h).symm)
    · have h := zk_if _ h c4
      refine zk_aload_n (i := 0) dX1_firstTooLaden_10 rfl rfl ?_
      refine zk_getR 6 1 0 dX1_firstTooLaden_11 zf_X1_9 (Nat.le_of_ble_eq_true rfl) rfl rfl ?_
      refine zk_iload_n (i := 2) dX1_firstTooLaden_14 rfl rfl ?_
      obtain ⟨b1, h⟩ := zk_gd h
      refine zk_iaload 7 6 dX1_firstTooLaden_15 (Nat.le_of_ble_eq_true rfl) rfl (zk_inb_in b1) ?_
      refine zk_aload_n (i := 1) dX1_firstTooLaden_16 rfl rfl ?_
      refine zk_getR 46 10 6 dX1_firstTooLaden_17 zf_X1_50 (Nat.le_of_ble_eq_true rfl) rfl rfl ?_
      refine zk_iload_n (i := 2) dX1_firstTooLaden_20 rfl rfl ?_
      obtain ⟨b2, h⟩ := zk_gd h
      refine zk_iaload 50 6 dX1_firstTooLaden_21 (Nat.le_of_ble_eq_true rfl) rfl (zk_inb_in b2) ?_
      refine zk_icmp_le 27 dX1_firstTooLaden_22 rfl (fun c3 => ?_) (fun c3 => ?_)
      · have h := zk_it _ h c3
        refine zk_iinc2 dX1_firstTooLaden_27 rfl zki_1 (Nat.le_of_ble_eq_true rfl) rfl ?_
        refine zk_goto 2 dX1_firstTooLaden_30 rfl ?_
        exact zk_weak (zk_leS (zk_leS (zk_leS zk_leE))) (ih mem (x2 + (1 : Int32)) _ h hr he)
      · have h := zk_if _ h c3
        refine zk_iload_n (i := 2) dX1_firstTooLaden_25 rfl rfl ?_
        exact zk_ireturn dX1_firstTooLaden_26 rfl ((zk_rI rfl).trans (hr _ (Option.some.inj h).symm))
set_option maxRecDepth 100000 in
set_option maxHeartbeats 4000000 in
theorem fBurden_firstTooLaden_ok {d : Nat} (hd : 0 ≤ d) (mem : zkM) (z : Int32) (h : fBurden_firstTooLaden mem = some z) : zk_X zSX d zY_X1_firstTooLaden [.ref 6, .ref 46] mem (some (.int z), mem) := by
  unfold fBurden_firstTooLaden at h
  refine zk_meet (n := 1) (lv := [some (.ref 6), some (.ref 46), none]) zpn_X1 rfl (Nat.le_of_ble_eq_true rfl) ?_
  refine zk_iconst dX1_firstTooLaden_0 zki_0 ?_
  refine zk_istore_n (i := 2) dX1_firstTooLaden_1 rfl (Nat.le_of_ble_eq_true rfl) rfl ?_
  obtain ⟨q1, hq1, h⟩ := zk_ob h
  refine zk_weak (zk_leS (zk_leS (zk_leS zk_leE))) (fBurden_firstTooLaden_L2_ok hd 500 mem (0 : Int32) _ hq1 (fun y hy => ?_) (fun q2 hy => ?_))
  · subst hy; have h := zk_el h; cases h; rfl
  subst hy
  have h := zk_er h
  refine zk_bipush dX1_firstTooLaden_33 zkb_m9 ?_
  exact zk_ireturn dX1_firstTooLaden_35 rfl (zk_rI (Option.some.inj h))
set_option maxRecDepth 100000 in
set_option maxHeartbeats 4000000 in
theorem fBurden_firstTooBent_L2_ok {d : Nat} {r : Option Value × zkM} (hd : 0 ≤ d)  : ∀ (n : Nat) (mem : zkM) (x2 : Int32) (z : (Int32) ⊕ (Unit)), fBurden_firstTooBent_L2 n mem x2 = some z → (∀ y, z = .inl y → (some (.int y), mem) = r) → (∀ z', z = .inr z' → zk_J zSX d zY_X1_firstTooBent (zk_R zSX r) 33 [none, none, none] [] mem) → zk_J zSX d zY_X1_firstTooBent (zk_R zSX r) 2 [some (.ref 6), some (.ref 46), some (.int x2)] [] mem := by
  intro n
  induction n with
  | zero => intro mem x2 z h; cases h
  | succ n ih =>
    intro mem x2 z h hr he
    rw [fBurden_firstTooBent_L2] at h
    refine zk_iload_n (i := 2) dX1_firstTooBent_2 rfl rfl ?_
    refine zk_aload_n (i := 1) dX1_firstTooBent_3 rfl rfl ?_
    refine zk_getI 46 10 0 dX1_firstTooBent_4 zf_X1_67 (Nat.le_of_ble_eq_true rfl) rfl rfl ?_
    refine zk_icmp_ge 33 dX1_firstTooBent_7 rfl (fun c4 => ?_) (fun c4 => ?_)
    · have h := zk_it _ h c4
      exact zk_weak (zk_leN (zk_leN (zk_leN zk_leE))) (he _ (Option.some.inj h).symm)
    · have h := zk_if _ h c4
      refine zk_aload_n (i := 0) dX1_firstTooBent_10 rfl rfl ?_
      refine zk_getR 6 1 1 dX1_firstTooBent_11 zf_X1_15 (Nat.le_of_ble_eq_true rfl) rfl rfl ?_
      refine zk_iload_n (i := 2) dX1_firstTooBent_14 rfl rfl ?_
      obtain ⟨b1, h⟩ := zk_gd h
      refine zk_iaload 8 8 dX1_firstTooBent_15 (Nat.le_of_ble_eq_true rfl) rfl (zk_inb_in b1) ?_
      refine zk_aload_n (i := 1) dX1_firstTooBent_16 rfl rfl ?_
      refine zk_getR 46 10 4 dX1_firstTooBent_17 zf_X1_53 (Nat.le_of_ble_eq_true rfl) rfl rfl ?_
      refine zk_iload_n (i := 2) dX1_firstTooBent_20 rfl rfl ?_
      obtain ⟨b2, h⟩ := zk_gd h
      refine zk_iaload 48 8 dX1_firstTooBent_21 (Nat.le_of_ble_eq_true rfl) rfl (zk_inb_in b2) ?_
      refine zk_icmp_le 27 dX1_firstTooBent_22 rfl (fun c3 => ?_) (fun c3 => ?_)
      · have h := zk_it _ h c3
        refine zk_iinc2 dX1_firstTooBent_27 rfl zki_1 (Nat.le_of_ble_eq_true rfl) rfl ?_
        refine zk_goto 2 dX1_firstTooBent_30 rfl ?_
        exact zk_weak (zk_leS (zk_leS (zk_leS zk_leE))) (ih mem (x2 + (1 : Int32)) _ h hr he)
      · have h := zk_if _ h c3
        refine zk_iload_n (i := 2) dX1_firstTooBent_25 rfl rfl ?_
        exact zk_ireturn dX1_firstTooBent_26 rfl ((zk_rI rfl).trans (hr _ (Option.some.inj h).symm))
set_option maxRecDepth 100000 in
set_option maxHeartbeats 4000000 in
theorem fBurden_firstTooBent_ok {d : Nat} (hd : 0 ≤ d) (mem : zkM) (z : Int32) (h : fBurden_firstTooBent mem = some z) : zk_X zSX d zY_X1_firstTooBent [.ref 6, .ref 46] mem (some (.int z), mem) := by
  unfold fBurden_firstTooBent at h
  refine zk_meet (n := 1) (lv := [some (.ref 6), some (.ref 46), none]) zpn_X1 rfl (Nat.le_of_ble_eq_true rfl) ?_
  refine zk_iconst dX1_firstTooBent_0 zki_0 ?_
  refine zk_istore_n (i := 2) dX1_firstTooBent_1 rfl (Nat.le_of_ble_eq_true rfl) rfl ?_
  obtain ⟨q1, hq1, h⟩ := zk_ob h
  refine zk_weak (zk_leS (zk_leS (zk_leS zk_leE))) (fBurden_firstTooBent_L2_ok hd 500 mem (0 : Int32) _ hq1 (fun y hy => ?_) (fun q2 hy => ?_))
  · subst hy; have h := zk_el h; cases h; rfl
  subst hy
  have h := zk_er h
  refine zk_bipush dX1_firstTooBent_33 zkb_m9 ?_
  exact zk_ireturn dX1_firstTooBent_35 rfl (zk_rI (Option.some.inj h))
set_option maxRecDepth 100000 in
set_option maxHeartbeats 4000000 in
theorem fScene_hasBothEnds_ok {d : Nat} (hd : 1 ≤ d) (mem : zkM) (a1 : Int32) (z : Bool) (h : fScene_hasBothEnds mem a1 = some z) : zk_X zSX d zY_X8_hasBothEnds [.ref 4, .int a1] mem (some (.int (zk_b z)), mem) := by
  unfold fScene_hasBothEnds at h
  refine zk_meet (n := 0) (lv := [some (.ref 4), some (.int a1)]) zpn_X8 rfl (Nat.le_of_ble_eq_true rfl) ?_
  refine zk_aload_n (i := 0) dX8_hasBothEnds_0 rfl rfl ?_
  refine zk_iconst dX8_hasBothEnds_1 zki_2 ?_
  refine zk_iload_n (i := 1) dX8_hasBothEnds_2 rfl rfl ?_
  refine zk_imul dX8_hasBothEnds_3 ?_
  obtain ⟨q1, hq1, h⟩ := zk_ob h
  refine zk_callVi zY_X8_isOut 4 8 [_] dX8_hasBothEnds_4 zl_X8_isOut zc_X8_34 zk_ok8 (Nat.le_of_ble_eq_true rfl) rfl (fScene_isOut_ok (d := 0) (Nat.le_refl _) mem _ _ hq1) (Nat.lt_of_lt_of_le (by decide) hd) (Nat.le_of_ble_eq_true rfl) ?_
  refine zk_if_ne 26 dX8_hasBothEnds_7 rfl (fun c4 => ?_) (fun c4 => ?_)
  · have h := zk_if _ h c4
    refine zk_iconst dX8_hasBothEnds_26 zki_0 ?_
    exact zk_zreturn dX8_hasBothEnds_27 rfl rfl (zk_rZ (Option.some.inj h))
  · have h := zk_it _ h c4
    refine zk_aload_n (i := 0) dX8_hasBothEnds_10 rfl rfl ?_
    refine zk_iconst dX8_hasBothEnds_11 zki_2 ?_
    refine zk_iload_n (i := 1) dX8_hasBothEnds_12 rfl rfl ?_
    refine zk_imul dX8_hasBothEnds_13 ?_
    refine zk_iconst dX8_hasBothEnds_14 zki_1 ?_
    refine zk_iadd dX8_hasBothEnds_15 ?_
    obtain ⟨q2, hq2, h⟩ := zk_ob h
    refine zk_callVi zY_X8_isOut 4 8 [_] dX8_hasBothEnds_16 zl_X8_isOut zc_X8_34 zk_ok8 (Nat.le_of_ble_eq_true rfl) rfl (fScene_isOut_ok (d := 0) (Nat.le_refl _) mem _ _ hq2) (Nat.lt_of_lt_of_le (by decide) hd) (Nat.le_of_ble_eq_true rfl) ?_
    refine zk_if_ne 26 dX8_hasBothEnds_19 rfl (fun c3 => ?_) (fun c3 => ?_)
    · have h := zk_if _ h c3
      refine zk_iconst dX8_hasBothEnds_26 zki_0 ?_
      exact zk_zreturn dX8_hasBothEnds_27 rfl rfl (zk_rZ (Option.some.inj h))
    · have h := zk_it _ h c3
      refine zk_iconst dX8_hasBothEnds_22 zki_1 ?_
      refine zk_goto 27 dX8_hasBothEnds_23 rfl ?_
      exact zk_zreturn dX8_hasBothEnds_27 rfl rfl (zk_rZ (Option.some.inj h))
set_option maxRecDepth 100000 in
set_option maxHeartbeats 4000000 in
theorem fBurden_firstUnheld_L2_ok {d : Nat} {r : Option Value × zkM} (hd : 2 ≤ d)  : ∀ (n : Nat) (mem : zkM) (x3 : Int32) (z : (Int32) ⊕ (Unit)), fBurden_firstUnheld_L2 n mem x3 = some z → (∀ y, z = .inl y → (some (.int y), mem) = r) → (∀ z', z = .inr z' → zk_J zSX d zY_X1_firstUnheld (zk_R zSX r) 35 [none, none, none, none] [] mem) → zk_J zSX d zY_X1_firstUnheld (zk_R zSX r) 2 [some (.ref 6), some (.ref 46), some (.ref 4), some (.int x3)] [] mem := by
  intro n
  induction n with
  | zero => intro mem x3 z h; cases h
  | succ n ih =>
    intro mem x3 z h hr he
    rw [fBurden_firstUnheld_L2] at h
    refine zk_iload_n (i := 3) dX1_firstUnheld_2 rfl rfl ?_
    refine zk_aload_n (i := 1) dX1_firstUnheld_3 rfl rfl ?_
    refine zk_getI 46 10 1 dX1_firstUnheld_4 zf_X1_33 (Nat.le_of_ble_eq_true rfl) rfl rfl ?_
    refine zk_icmp_ge 35 dX1_firstUnheld_7 rfl (fun c5 => ?_) (fun c5 => ?_)
    · have h := zk_it _ h c5
      exact zk_weak (zk_leN (zk_leN (zk_leN (zk_leN zk_leE)))) (he _ (Option.some.inj h).symm)
    · have h := zk_if _ h c5
      refine zk_aload_n (i := 0) dX1_firstUnheld_10 rfl rfl ?_
      refine zk_getR 6 1 0 dX1_firstUnheld_11 zf_X1_9 (Nat.le_of_ble_eq_true rfl) rfl rfl ?_
      refine zk_iload_n (i := 3) dX1_firstUnheld_14 rfl rfl ?_
      obtain ⟨b1, h⟩ := zk_gd h
      refine zk_iaload 7 6 dX1_firstUnheld_15 (Nat.le_of_ble_eq_true rfl) rfl (zk_inb_in b1) ?_
      refine zk_if_le 29 dX1_firstUnheld_16 rfl (fun c4 => ?_) (fun c4 => ?_)
      · have h := zk_it _ h c4
        refine zk_iinc2 dX1_firstUnheld_29 rfl zki_1 (Nat.le_of_ble_eq_true rfl) rfl ?_
        refine zk_goto 2 dX1_firstUnheld_32 rfl ?_
        exact zk_weak (zk_leS (zk_leS (zk_leS (zk_leS zk_leE)))) (ih mem (x3 + (1 : Int32)) _ h hr he)
      · have h := zk_if _ h c4
        refine zk_aload_n (i := 2) dX1_firstUnheld_19 rfl rfl ?_
        refine zk_iload_n (i := 3) dX1_firstUnheld_20 rfl rfl ?_
        obtain ⟨q2, hq2, h⟩ := zk_ob h
        refine zk_callVi zY_X8_hasBothEnds 4 8 [_] dX1_firstUnheld_21 zl_X8_hasBothEnds zc_X1_70 zk_ok8 (Nat.le_of_ble_eq_true rfl) rfl (fScene_hasBothEnds_ok (d := 1) (Nat.le_refl _) mem _ _ hq2) (Nat.lt_of_lt_of_le (by decide) hd) (Nat.le_of_ble_eq_true rfl) ?_
        refine zk_if_ne 29 dX1_firstUnheld_24 rfl (fun c3 => ?_) (fun c3 => ?_)
        · have h := zk_if _ h c3
          refine zk_iinc2 dX1_firstUnheld_29 rfl zki_1 (Nat.le_of_ble_eq_true rfl) rfl ?_
          refine zk_goto 2 dX1_firstUnheld_32 rfl ?_
          exact zk_weak (zk_leS (zk_leS (zk_leS (zk_leS zk_leE)))) (ih mem (x3 + (1 : Int32)) _ h hr he)
        · have h := zk_it _ h c3
          refine zk_iload_n (i := 3) dX1_firstUnheld_27 rfl rfl ?_
          exact zk_ireturn dX1_firstUnheld_28 rfl ((zk_rI rfl).trans (hr _ (Option.some.inj h).symm))
set_option maxRecDepth 100000 in
set_option maxHeartbeats 4000000 in
theorem fBurden_firstUnheld_ok {d : Nat} (hd : 2 ≤ d) (mem : zkM) (z : Int32) (h : fBurden_firstUnheld mem = some z) : zk_X zSX d zY_X1_firstUnheld [.ref 6, .ref 46, .ref 4] mem (some (.int z), mem) := by
  unfold fBurden_firstUnheld at h
  refine zk_meet (n := 1) (lv := [some (.ref 6), some (.ref 46), some (.ref 4), none]) zpn_X1 rfl (Nat.le_of_ble_eq_true rfl) ?_
  refine zk_iconst dX1_firstUnheld_0 zki_0 ?_
  refine zk_istore_n (i := 3) dX1_firstUnheld_1 rfl (Nat.le_of_ble_eq_true rfl) rfl ?_
  obtain ⟨q1, hq1, h⟩ := zk_ob h
  refine zk_weak (zk_leS (zk_leS (zk_leS (zk_leS zk_leE)))) (fBurden_firstUnheld_L2_ok hd 500 mem (0 : Int32) _ hq1 (fun y hy => ?_) (fun q2 hy => ?_))
  · subst hy; have h := zk_el h; cases h; rfl
  subst hy
  have h := zk_er h
  refine zk_bipush dX1_firstUnheld_35 zkb_m9 ?_
  exact zk_ireturn dX1_firstUnheld_37 rfl (zk_rI (Option.some.inj h))
