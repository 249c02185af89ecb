set_option maxRecDepth 100000 in
set_option maxHeartbeats 4000000 in
theorem fScene_growBark_ok {d : Nat} (hd : 1 ≤ d) (mem : zkM) (z : Int32 × zkM) (h : fScene_growBark mem = some z) : zk_X zSX d zY_X8_growBark [.ref 4, .ref 46] mem (some (.int z.1), z.2) := by
  unfold fScene_growBark at h
  refine zk_meet (n := 2) (lv := [some (.ref 4), some (.ref 46), none, none]) zpn_X8 rfl (Nat.le_of_ble_eq_true rfl) ?_
  refine zk_iconst dX8_growBark_0 zki_0 ?_
  refine zk_istore_n (i := 2) dX8_growBark_1 rfl (Nat.le_of_ble_eq_true rfl) rfl ?_
  refine zk_iconst dX8_growBark_2 zki_0 ?_
  refine zk_istore_n (i := 3) dX8_growBark_3 rfl (Nat.le_of_ble_eq_true rfl) rfl ?_
  obtain ⟨q1, hq1, h⟩ := zk_ob h
  refine zk_weak (zk_leS (zk_leS (zk_leS (zk_leS zk_leE)))) (fScene_growBark_L4_ok hd 500 mem (0 : Int32) (0 : Int32) _ hq1 ?_)
  refine zk_iload_n (i := 2) dX8_growBark_66 rfl rfl ?_
  exact zk_ireturn dX8_growBark_67 rfl (zk_rIw (Option.some.inj h))
set_option maxRecDepth 100000 in
set_option maxHeartbeats 4000000 in
theorem fTp_spring_ok {d : Nat} (hd : 2 ≤ d) (mem : zkM) (z : Int32 × zkM) (h : fTp_spring mem = some z) : zk_X zSX d zY_X11_spring [.ref 0] mem (some (.int z.1), z.2) := by
  unfold fTp_spring at h
  refine zk_meet (n := 0) (lv := [some (.ref 0)]) zpn_X11 rfl (Nat.le_of_ble_eq_true rfl) ?_
  refine zk_aload_n (i := 0) dX11_spring_0 rfl rfl ?_
  refine zk_getR 0 11 3 dX11_spring_1 zf_X11_33 (Nat.le_of_ble_eq_true rfl) rfl rfl ?_
  refine zk_aload_n (i := 0) dX11_spring_4 rfl rfl ?_
  refine zk_getR 0 11 1 dX11_spring_5 zf_X11_19 (Nat.le_of_ble_eq_true rfl) rfl rfl ?_
  obtain ⟨q1, hq1, h⟩ := zk_ob h
  refine zk_callVv zY_X5_remember 9 5 [_] dX11_spring_8 zl_X5_remember zc_X11_199 zk_ok5 (Nat.le_of_ble_eq_true rfl) rfl (fPast_remember_ok (d := 1) (Nat.le_refl _) mem  _ hq1) (Nat.lt_of_lt_of_le (by decide) hd) (Nat.le_of_ble_eq_true rfl) ?_
  refine zk_aload_n (i := 0) dX11_spring_11 rfl rfl ?_
  refine zk_getR 0 11 1 dX11_spring_12 zf_X11_19 (Nat.le_of_ble_eq_true rfl) rfl rfl ?_
  refine zk_aload_n (i := 0) dX11_spring_15 rfl rfl ?_
  refine zk_getR 0 11 10 dX11_spring_16 zf_X11_82 (Nat.le_of_ble_eq_true rfl) rfl rfl ?_
  obtain ⟨q2, hq2, h⟩ := zk_ob h
  refine zk_callVi zY_X8_growBark 4 8 [_] dX11_spring_19 zl_X8_growBark zc_X11_220 zk_ok8 (Nat.le_of_ble_eq_true rfl) rfl (fScene_growBark_ok (d := 1) (Nat.le_refl _) q1  _ hq2) (Nat.lt_of_lt_of_le (by decide) hd) (Nat.le_of_ble_eq_true rfl) ?_
  exact zk_ireturn dX11_spring_22 rfl (zk_rIw (Option.some.inj h))
set_option maxRecDepth 100000 in
set_option maxHeartbeats 4000000 in
theorem fScene_copyFrom_q_ok {d : Nat} (hd : 0 ≤ d) (mem : zkM) (q : Nat) (hq : q < zSX.1 ∧ zSX.2.1 q = some (.inl (42, 0))) (z : zkM) (h : fScene_copyFrom_q mem q = z) : zk_X zSX d zY_X8_copyFrom [.ref 4, .ref q] mem (none, z) := by
  unfold fScene_copyFrom_q at h
  refine zk_meet (n := 0) (lv := [some (.ref 4), some (.ref q)]) zpn_X8 rfl (Nat.le_of_ble_eq_true rfl) ?_
  refine zk_aload_n (i := 1) dX8_copyFrom_0 rfl rfl ?_
  refine zk_alen q 42 dX8_copyFrom_1 hq.1 hq.2 (v := 42) (by decide) ?_
  refine zk_bipush dX8_copyFrom_2 zkb_42 ?_
  refine zk_icmp_lt 19 dX8_copyFrom_4 rfl (fun c => absurd c (by decide)) (fun _ => ?_)
  refine zk_aload_n (i := 1) dX8_copyFrom_7 rfl rfl ?_
  refine zk_iconst dX8_copyFrom_8 zki_0 ?_
  refine zk_aload_n (i := 0) dX8_copyFrom_9 rfl rfl ?_
  refine zk_getR 4 8 0 dX8_copyFrom_10 zf_X8_11 (Nat.le_of_ble_eq_true rfl) rfl rfl ?_
  refine zk_iconst dX8_copyFrom_13 zki_0 ?_
  refine zk_bipush dX8_copyFrom_14 zkb_42 ?_
  obtain ⟨m1, em1, h⟩ := zk_lt h
  refine zk_copyI q 5 42 42 42 dX8_copyFrom_16 zc_X8_24 zac hq.1 (Nat.le_of_ble_eq_true rfl) hq.2 rfl (by decide) (by decide) (by decide) (by decide) (Nat.le_of_ble_eq_true rfl) em1 ?_
  exact zk_vreturn dX8_copyFrom_19 rfl (zk_rVw h)
set_option maxRecDepth 100000 in
set_option maxHeartbeats 4000000 in
theorem fPast_takeBack_ok {d : Nat} (hd : 1 ≤ d) (mem : zkM) (z : Bool × zkM) (h : fPast_takeBack mem = some z) : zk_X zSX d zY_X5_takeBack [.ref 9, .ref 4] mem (some (.int (zk_b z.1)), z.2) := by
  unfold fPast_takeBack at h
  refine zk_meet (n := 0) (lv := [some (.ref 9), some (.ref 4)]) zpn_X5 rfl (Nat.le_of_ble_eq_true rfl) ?_
  refine zk_aload_n (i := 0) dX5_takeBack_0 rfl rfl ?_
  refine zk_getI 9 5 1 dX5_takeBack_1 zf_X5_18 (Nat.le_of_ble_eq_true rfl) rfl rfl ?_
  refine zk_if_ne 9 dX5_takeBack_4 rfl (fun c7 => ?_) (fun c7 => ?_)
  · have h := zk_if _ h c7
    refine zk_aload_n (i := 0) dX5_takeBack_9 rfl rfl ?_
    refine zk_dup dX5_takeBack_10 rfl ?_
    refine zk_getI 9 5 1 dX5_takeBack_11 zf_X5_18 (Nat.le_of_ble_eq_true rfl) rfl rfl ?_
    refine zk_iconst dX5_takeBack_14 zki_1 ?_
    refine zk_isub dX5_takeBack_15 ?_
    obtain ⟨m1, em1, h⟩ := zk_lt h
    refine zk_putI' 9 5 1 dX5_takeBack_16 zp_X5_18 (Nat.le_of_ble_eq_true rfl) rfl rfl em1 ?_
    refine zk_aload_n (i := 0) dX5_takeBack_19 rfl rfl ?_
    refine zk_aload_n (i := 0) dX5_takeBack_20 rfl rfl ?_
    refine zk_getI 9 5 2 dX5_takeBack_21 zf_X5_22 (Nat.le_of_ble_eq_true rfl) rfl rfl ?_
    obtain ⟨q2, hq2, h⟩ := zk_lt h
    have Jq2 : zk_J zSX d zY_X5_takeBack (zk_R zSX (some (.int (zk_b z.1)), z.2)) 38 [some (.ref 9), some (.ref 4)] [.int q2, .ref 9] m1 := by
      obtain ⟨m4, em4, h⟩ := zk_lt h
      refine zk_putI' 9 5 2 dX5_takeBack_38 zp_X5_22 (Nat.le_of_ble_eq_true rfl) rfl rfl em4 ?_
      refine zk_aload_n (i := 1) dX5_takeBack_41 rfl rfl ?_
      refine zk_aload_n (i := 0) dX5_takeBack_42 rfl rfl ?_
      refine zk_getR 9 5 0 dX5_takeBack_43 zf_X5_13 (Nat.le_of_ble_eq_true rfl) rfl rfl ?_
      refine zk_aload_n (i := 0) dX5_takeBack_46 rfl rfl ?_
      refine zk_getI 9 5 2 dX5_takeBack_47 zf_X5_22 (Nat.le_of_ble_eq_true rfl) rfl rfl ?_
      obtain ⟨b5, h⟩ := zk_gd h
      refine zk_aaload 10 10 dX5_takeBack_50 (Nat.le_of_ble_eq_true rfl) rfl (zk_inb_in b5) ?_
      obtain ⟨q6, hq6, h⟩ := zk_lt h
      refine zk_callVv zY_X8_copyFrom 4 8 [_] dX5_takeBack_51 zl_X8_copyFrom zc_X5_35 zk_ok8 (Nat.le_of_ble_eq_true rfl) rfl (fScene_copyFrom_q_ok (d := 0) (Nat.le_refl _) m4 _ (zq_10 b5) _ hq6) (Nat.lt_of_lt_of_le (by decide) hd) (Nat.le_of_ble_eq_true rfl) ?_
      refine zk_iconst dX5_takeBack_54 zki_1 ?_
      exact zk_zreturn dX5_takeBack_55 rfl rfl (zk_rZw (Option.some.inj h))
    have h := hq2
    clear hq2
    refine zk_if_le 36 dX5_takeBack_24 rfl (fun c3 => ?_) (fun c3 => ?_)
    · have h := zk_it _ h c3
      refine zk_bipush dX5_takeBack_36 zkb_9 ?_
      subst h
      exact zk_weak (zk_leS (zk_leS zk_leE)) Jq2
    · have h := zk_if _ h c3
      refine zk_aload_n (i := 0) dX5_takeBack_27 rfl rfl ?_
      refine zk_getI 9 5 2 dX5_takeBack_28 zf_X5_22 (Nat.le_of_ble_eq_true rfl) rfl rfl ?_
      refine zk_iconst dX5_takeBack_31 zki_1 ?_
      refine zk_isub dX5_takeBack_32 ?_
      refine zk_goto 38 dX5_takeBack_33 rfl ?_
      subst h
      exact zk_weak (zk_leS (zk_leS zk_leE)) Jq2
  · have h := zk_it _ h c7
    refine zk_iconst dX5_takeBack_7 zki_0 ?_
    exact zk_zreturn dX5_takeBack_8 rfl rfl (zk_rZw (Option.some.inj h))
set_option maxRecDepth 100000 in
set_option maxHeartbeats 4000000 in
theorem fTp_undo_ok {d : Nat} (hd : 2 ≤ d) (mem : zkM) (z : Int32 × zkM) (h : fTp_undo mem = some z) : zk_X zSX d zY_X11_undo [.ref 0] mem (some (.int z.1), z.2) := by
  unfold fTp_undo at h
  refine zk_meet (n := 0) (lv := [some (.ref 0)]) zpn_X11 rfl (Nat.le_of_ble_eq_true rfl) ?_
  refine zk_aload_n (i := 0) dX11_undo_0 rfl rfl ?_
  refine zk_getR 0 11 3 dX11_undo_1 zf_X11_33 (Nat.le_of_ble_eq_true rfl) rfl rfl ?_
  refine zk_aload_n (i := 0) dX11_undo_4 rfl rfl ?_
  refine zk_getR 0 11 1 dX11_undo_5 zf_X11_19 (Nat.le_of_ble_eq_true rfl) rfl rfl ?_
  obtain ⟨q1, hq1, h⟩ := zk_ob h
  refine zk_callVi zY_X5_takeBack 9 5 [_] dX11_undo_8 zl_X5_takeBack zc_X11_223 zk_ok5 (Nat.le_of_ble_eq_true rfl) rfl (fPast_takeBack_ok (d := 1) (Nat.le_refl _) mem  _ hq1) (Nat.lt_of_lt_of_le (by decide) hd) (Nat.le_of_ble_eq_true rfl) ?_
  refine zk_if_eq 24 dX11_undo_11 rfl (fun c2 => ?_) (fun c2 => ?_)
  · have h := zk_it _ h c2
    refine zk_bipush dX11_undo_24 zkb_m2 ?_
    exact zk_ireturn dX11_undo_26 rfl (zk_rIw (Option.some.inj h))
  · have h := zk_if _ h c2
    refine zk_aload_n (i := 0) dX11_undo_14 rfl rfl ?_
    refine zk_getR 0 11 3 dX11_undo_15 zf_X11_33 (Nat.le_of_ble_eq_true rfl) rfl rfl ?_
    refine zk_getI 9 5 1 dX11_undo_18 zf_X11_196 (Nat.le_of_ble_eq_true rfl) rfl rfl ?_
    refine zk_goto 26 dX11_undo_21 rfl ?_
    exact zk_ireturn dX11_undo_26 rfl (zk_rIw (Option.some.inj h))
set_option maxRecDepth 100000 in
set_option maxHeartbeats 4000000 in
theorem fBurden_emptyP_L2_ok {d : Nat} {Z : zkZ} (hd : 0 ≤ d)  : ∀ (n : Nat) (mem : zkM) (x1 : Int32) (z : zkM), fBurden_emptyP_L2 n mem x1 = some z → zk_J zSX d zY_X1_empty Z 21 [some (.ref 31), none] [] z → zk_J zSX d zY_X1_empty Z 2 [some (.ref 31), some (.int x1)] [] mem := by
  intro n
  induction n with
  | zero => intro mem x1 z h; cases h
  | succ n ih =>
    intro mem x1 z h he
    rw [fBurden_emptyP_L2] at h
    refine zk_iload_n (i := 1) dX1_empty_2 rfl rfl ?_
    refine zk_bipush dX1_empty_3 zkb_6 ?_
    refine zk_icmp_ge 21 dX1_empty_5 rfl (fun c3 => ?_) (fun c3 => ?_)
    · have h := zk_it _ h c3
      cases h
      exact zk_weak (zk_leS (zk_leN zk_leE)) he
    · have h := zk_if _ h c3
      refine zk_aload_n (i := 0) dX1_empty_8 rfl rfl ?_
      refine zk_getR 31 1 0 dX1_empty_9 zf_X1_9 (Nat.le_of_ble_eq_true rfl) rfl rfl ?_
      refine zk_iload_n (i := 1) dX1_empty_12 rfl rfl ?_
      refine zk_iconst dX1_empty_13 zki_0 ?_
      obtain ⟨b1, h⟩ := zk_gd h
      obtain ⟨m2, em2, h⟩ := zk_lt h
      refine zk_iastore' 32 6 dX1_empty_14 (Nat.le_of_ble_eq_true rfl) rfl (zk_inb_in b1) em2 ?_
      refine zk_iinc2 dX1_empty_15 rfl zki_1 (Nat.le_of_ble_eq_true rfl) rfl ?_
      refine zk_goto 2 dX1_empty_18 rfl ?_
      exact zk_weak (zk_leS (zk_leS zk_leE)) (ih m2 (x1 + (1 : Int32)) _ h he)
set_option maxRecDepth 100000 in
set_option maxHeartbeats 4000000 in
theorem fBurden_emptyP_L23_ok {d : Nat} {Z : zkZ} (hd : 0 ≤ d)  : ∀ (n : Nat) (mem : zkM) (x1 : Int32) (z : zkM), fBurden_emptyP_L23 n mem x1 = some z → zk_J zSX d zY_X1_empty Z 42 [none, none] [] z → zk_J zSX d zY_X1_empty Z 23 [some (.ref 31), some (.int x1)] [] mem := by
  intro n
  induction n with
  | zero => intro mem x1 z h; cases h
  | succ n ih =>
    intro mem x1 z h he
    rw [fBurden_emptyP_L23] at h
    refine zk_iload_n (i := 1) dX1_empty_23 rfl rfl ?_
    refine zk_bipush dX1_empty_24 zkb_8 ?_
    refine zk_icmp_ge 42 dX1_empty_26 rfl (fun c3 => ?_) (fun c3 => ?_)
    · have h := zk_it _ h c3
      cases h
      exact zk_weak (zk_leN (zk_leN zk_leE)) he
    · have h := zk_if _ h c3
      refine zk_aload_n (i := 0) dX1_empty_29 rfl rfl ?_
      refine zk_getR 31 1 1 dX1_empty_30 zf_X1_15 (Nat.le_of_ble_eq_true rfl) rfl rfl ?_
      refine zk_iload_n (i := 1) dX1_empty_33 rfl rfl ?_
      refine zk_iconst dX1_empty_34 zki_0 ?_
      obtain ⟨b1, h⟩ := zk_gd h
      obtain ⟨m2, em2, h⟩ := zk_lt h
      refine zk_iastore' 33 8 dX1_empty_35 (Nat.le_of_ble_eq_true rfl) rfl (zk_inb_in b1) em2 ?_
      refine zk_iinc2 dX1_empty_36 rfl zki_1 (Nat.le_of_ble_eq_true rfl) rfl ?_
      refine zk_goto 23 dX1_empty_39 rfl ?_
      exact zk_weak (zk_leS (zk_leS zk_leE)) (ih m2 (x1 + (1 : Int32)) _ h he)
set_option maxRecDepth 100000 in
set_option maxHeartbeats 4000000 in
theorem fBurden_emptyP_ok {d : Nat} (hd : 0 ≤ d) (mem : zkM) (z : zkM) (h : fBurden_emptyP mem = some z) : zk_X zSX d zY_X1_empty [.ref 31] mem (none, z) := by
  unfold fBurden_emptyP at h
  refine zk_meet (n := 1) (lv := [some (.ref 31), none]) zpn_X1 rfl (Nat.le_of_ble_eq_true rfl) ?_
  refine zk_iconst dX1_empty_0 zki_0 ?_
  refine zk_istore_n (i := 1) dX1_empty_1 rfl (Nat.le_of_ble_eq_true rfl) rfl ?_
  obtain ⟨q1, hq1, h⟩ := zk_ob h
  refine zk_weak (zk_leS (zk_leS zk_leE)) (fBurden_emptyP_L2_ok hd 500 mem (0 : Int32) _ hq1 ?_)
  refine zk_iconst dX1_empty_21 zki_0 ?_
  refine zk_istore_n (i := 1) dX1_empty_22 rfl (Nat.le_of_ble_eq_true rfl) rfl ?_
  obtain ⟨q2, hq2, h⟩ := zk_ob h
  refine zk_weak (zk_leS (zk_leS zk_leE)) (fBurden_emptyP_L23_ok hd 500 q1 (0 : Int32) _ hq2 ?_)
  exact zk_vreturn dX1_empty_42 rfl (zk_rVw (Option.some.inj h))
set_option maxRecDepth 100000 in
set_option maxHeartbeats 4000000 in
theorem fBurden_addP_ok {d : Nat} (hd : 0 ≤ d) (mem : zkM) (a2 : Int32) (a3 : Int32) (z : zkM) (h : fBurden_addP mem a2 a3 = some z) : zk_X zSX d zY_X1_add [.ref 31, .ref 46, .int a2, .int a3] mem (none, z) := by
  unfold fBurden_addP at h
  refine zk_meet (n := 2) (lv := [some (.ref 31), some (.ref 46), some (.int a2), some (.int a3), none, none]) zpn_X1 rfl (Nat.le_of_ble_eq_true rfl) ?_
  refine zk_aload_n (i := 1) dX1_add_0 rfl rfl ?_
  refine zk_getR 46 10 7 dX1_add_1 zf_X1_47 (Nat.le_of_ble_eq_true rfl) rfl rfl ?_
  refine zk_iconst dX1_add_4 zki_2 ?_
  refine zk_iload_n (i := 2) dX1_add_5 rfl rfl ?_
  refine zk_imul dX1_add_6 ?_
  obtain ⟨b1, h⟩ := zk_gd h
  refine zk_iaload 51 12 dX1_add_7 (Nat.le_of_ble_eq_true rfl) rfl (zk_inb_in b1) ?_
  obtain ⟨v2, ev2, h⟩ := zk_lt h
  refine zk_istore' dX1_add_8 ev2 (Nat.le_of_ble_eq_true rfl) rfl ?_
  refine zk_aload_n (i := 1) dX1_add_10 rfl rfl ?_
  refine zk_getR 46 10 7 dX1_add_11 zf_X1_47 (Nat.le_of_ble_eq_true rfl) rfl rfl ?_
  refine zk_iconst dX1_add_14 zki_2 ?_
  refine zk_iload_n (i := 2) dX1_add_15 rfl rfl ?_
  refine zk_imul dX1_add_16 ?_
  refine zk_iconst dX1_add_17 zki_1 ?_
  refine zk_iadd dX1_add_18 ?_
  obtain ⟨b3, h⟩ := zk_gd h
  refine zk_iaload 51 12 dX1_add_19 (Nat.le_of_ble_eq_true rfl) rfl (zk_inb_in b3) ?_
  obtain ⟨v4, ev4, h⟩ := zk_lt h
  refine zk_istore' dX1_add_20 ev4 (Nat.le_of_ble_eq_true rfl) rfl ?_
  refine zk_aload_n (i := 0) dX1_add_22 rfl rfl ?_
  refine zk_getR 31 1 1 dX1_add_23 zf_X1_15 (Nat.le_of_ble_eq_true rfl) rfl rfl ?_
  refine zk_iload dX1_add_26 rfl ?_
  refine zk_dup2 dX1_add_28 rfl rfl ?_
  obtain ⟨b5, h⟩ := zk_gd h
  refine zk_iaload 33 8 dX1_add_29 (Nat.le_of_ble_eq_true rfl) rfl (zk_inb_in b5) ?_
  refine zk_aload_n (i := 0) dX1_add_30 rfl rfl ?_
  refine zk_getR 31 1 0 dX1_add_31 zf_X1_9 (Nat.le_of_ble_eq_true rfl) rfl rfl ?_
  refine zk_iload_n (i := 2) dX1_add_34 rfl rfl ?_
  obtain ⟨b6, h⟩ := zk_gd h
  refine zk_iaload 32 6 dX1_add_35 (Nat.le_of_ble_eq_true rfl) rfl (zk_inb_in b6) ?_
  refine zk_aload_n (i := 0) dX1_add_36 rfl rfl ?_
  refine zk_getR 31 1 0 dX1_add_37 zf_X1_9 (Nat.le_of_ble_eq_true rfl) rfl rfl ?_
  refine zk_iload_n (i := 2) dX1_add_40 rfl rfl ?_
  obtain ⟨b7, h⟩ := zk_gd h
  refine zk_iaload 32 6 dX1_add_41 (Nat.le_of_ble_eq_true rfl) rfl (zk_inb_in b7) ?_
  refine zk_iconst dX1_add_42 zki_2 ?_
  refine zk_idiv dX1_add_43 (by decide) ?_
  refine zk_isub dX1_add_44 ?_
  refine zk_isub dX1_add_45 ?_
  obtain ⟨b8, h⟩ := zk_gd h
  obtain ⟨m9, em9, h⟩ := zk_lt h
  refine zk_iastore' 33 8 dX1_add_46 (Nat.le_of_ble_eq_true rfl) rfl (zk_inb_in b8) em9 ?_
  refine zk_aload_n (i := 0) dX1_add_47 rfl rfl ?_
  refine zk_getR 31 1 1 dX1_add_48 zf_X1_15 (Nat.le_of_ble_eq_true rfl) rfl rfl ?_
  refine zk_iload dX1_add_51 rfl ?_
  refine zk_dup2 dX1_add_53 rfl rfl ?_
  obtain ⟨b10, h⟩ := zk_gd h
  refine zk_iaload 33 8 dX1_add_54 (Nat.le_of_ble_eq_true rfl) rfl (zk_inb_in b10) ?_
  refine zk_aload_n (i := 0) dX1_add_55 rfl rfl ?_
  refine zk_getR 31 1 0 dX1_add_56 zf_X1_9 (Nat.le_of_ble_eq_true rfl) rfl rfl ?_
  refine zk_iload_n (i := 2) dX1_add_59 rfl rfl ?_
  obtain ⟨b11, h⟩ := zk_gd h
  refine zk_iaload 32 6 dX1_add_60 (Nat.le_of_ble_eq_true rfl) rfl (zk_inb_in b11) ?_
  refine zk_iconst dX1_add_61 zki_2 ?_
  refine zk_idiv dX1_add_62 (by decide) ?_
  refine zk_isub dX1_add_63 ?_
  obtain ⟨b12, h⟩ := zk_gd h
  obtain ⟨m13, em13, h⟩ := zk_lt h
  refine zk_iastore' 33 8 dX1_add_64 (Nat.le_of_ble_eq_true rfl) rfl (zk_inb_in b12) em13 ?_
  refine zk_aload_n (i := 0) dX1_add_65 rfl rfl ?_
  refine zk_getR 31 1 0 dX1_add_66 zf_X1_9 (Nat.le_of_ble_eq_true rfl) rfl rfl ?_
  refine zk_iload_n (i := 2) dX1_add_69 rfl rfl ?_
  refine zk_dup2 dX1_add_70 rfl rfl ?_
  obtain ⟨b14, h⟩ := zk_gd h
  refine zk_iaload 32 6 dX1_add_71 (Nat.le_of_ble_eq_true rfl) rfl (zk_inb_in b14) ?_
  refine zk_iload_n (i := 3) dX1_add_72 rfl rfl ?_
  refine zk_iadd dX1_add_73 ?_
  obtain ⟨b15, h⟩ := zk_gd h
  obtain ⟨m16, em16, h⟩ := zk_lt h
  refine zk_iastore' 32 6 dX1_add_74 (Nat.le_of_ble_eq_true rfl) rfl (zk_inb_in b15) em16 ?_
  refine zk_aload_n (i := 0) dX1_add_75 rfl rfl ?_
  refine zk_getR 31 1 1 dX1_add_76 zf_X1_15 (Nat.le_of_ble_eq_true rfl) rfl rfl ?_
  refine zk_iload dX1_add_79 rfl ?_
  refine zk_dup2 dX1_add_81 rfl rfl ?_
  obtain ⟨b17, h⟩ := zk_gd h
  refine zk_iaload 33 8 dX1_add_82 (Nat.le_of_ble_eq_true rfl) rfl (zk_inb_in b17) ?_
  refine zk_aload_n (i := 0) dX1_add_83 rfl rfl ?_
  refine zk_getR 31 1 0 dX1_add_84 zf_X1_9 (Nat.le_of_ble_eq_true rfl) rfl rfl ?_
  refine zk_iload_n (i := 2) dX1_add_87 rfl rfl ?_
  obtain ⟨b18, h⟩ := zk_gd h
  refine zk_iaload 32 6 dX1_add_88 (Nat.le_of_ble_eq_true rfl) rfl (zk_inb_in b18) ?_
  refine zk_aload_n (i := 0) dX1_add_89 rfl rfl ?_
  refine zk_getR 31 1 0 dX1_add_90 zf_X1_9 (Nat.le_of_ble_eq_true rfl) rfl rfl ?_
  refine zk_iload_n (i := 2) dX1_add_93 rfl rfl ?_
  obtain ⟨b19, h⟩ := zk_gd h
  refine zk_iaload 32 6 dX1_add_94 (Nat.le_of_ble_eq_true rfl) rfl (zk_inb_in b19) ?_
  refine zk_iconst dX1_add_95 zki_2 ?_
  refine zk_idiv dX1_add_96 (by decide) ?_
  refine zk_isub dX1_add_97 ?_
  refine zk_iadd dX1_add_98 ?_
  obtain ⟨b20, h⟩ := zk_gd h
  obtain ⟨m21, em21, h⟩ := zk_lt h
  refine zk_iastore' 33 8 dX1_add_99 (Nat.le_of_ble_eq_true rfl) rfl (zk_inb_in b20) em21 ?_
  refine zk_aload_n (i := 0) dX1_add_100 rfl rfl ?_
  refine zk_getR 31 1 1 dX1_add_101 zf_X1_15 (Nat.le_of_ble_eq_true rfl) rfl rfl ?_
  refine zk_iload dX1_add_104 rfl ?_
  refine zk_dup2 dX1_add_106 rfl rfl ?_
  obtain ⟨b22, h⟩ := zk_gd h
  refine zk_iaload 33 8 dX1_add_107 (Nat.le_of_ble_eq_true rfl) rfl (zk_inb_in b22) ?_
  refine zk_aload_n (i := 0) dX1_add_108 rfl rfl ?_
  refine zk_getR 31 1 0 dX1_add_109 zf_X1_9 (Nat.le_of_ble_eq_true rfl) rfl rfl ?_
  refine zk_iload_n (i := 2) dX1_add_112 rfl rfl ?_
  obtain ⟨b23, h⟩ := zk_gd h
  refine zk_iaload 32 6 dX1_add_113 (Nat.le_of_ble_eq_true rfl) rfl (zk_inb_in b23) ?_
  refine zk_iconst dX1_add_114 zki_2 ?_
  refine zk_idiv dX1_add_115 (by decide) ?_
  refine zk_iadd dX1_add_116 ?_
  obtain ⟨b24, h⟩ := zk_gd h
  obtain ⟨m25, em25, h⟩ := zk_lt h
  refine zk_iastore' 33 8 dX1_add_117 (Nat.le_of_ble_eq_true rfl) rfl (zk_inb_in b24) em25 ?_
  exact zk_vreturn dX1_add_118 rfl (zk_rVw (Option.some.inj h))
set_option maxRecDepth 100000 in
set_option maxHeartbeats 4000000 in
theorem fBurden_fitsP_ok {d : Nat} (hd : 0 ≤ d) (mem : zkM) (a2 : Int32) (z : Bool) (h : fBurden_fitsP mem a2 = some z) : zk_X zSX d zY_X1_fits [.ref 31, .ref 46, .int a2] mem (some (.int (zk_b z)), mem) := by
  unfold fBurden_fitsP at h
  refine zk_meet (n := 2) (lv := [some (.ref 31), some (.ref 46), some (.int a2), none, none]) zpn_X1 rfl (Nat.le_of_ble_eq_true rfl) ?_
  refine zk_aload_n (i := 1) dX1_fits_0 rfl rfl ?_
  refine zk_getR 46 10 7 dX1_fits_1 zf_X1_47 (Nat.le_of_ble_eq_true rfl) rfl rfl ?_
  refine zk_iconst dX1_fits_4 zki_2 ?_
  refine zk_iload_n (i := 2) dX1_fits_5 rfl rfl ?_
  refine zk_imul dX1_fits_6 ?_
  obtain ⟨b1, h⟩ := zk_gd h
  refine zk_iaload 51 12 dX1_fits_7 (Nat.le_of_ble_eq_true rfl) rfl (zk_inb_in b1) ?_
  obtain ⟨v2, ev2, h⟩ := zk_lt h
  refine zk_istore_n' (i := 3) dX1_fits_8 rfl ev2 (Nat.le_of_ble_eq_true rfl) rfl ?_
  refine zk_aload_n (i := 1) dX1_fits_9 rfl rfl ?_
  refine zk_getR 46 10 7 dX1_fits_10 zf_X1_47 (Nat.le_of_ble_eq_true rfl) rfl rfl ?_
  refine zk_iconst dX1_fits_13 zki_2 ?_
  refine zk_iload_n (i := 2) dX1_fits_14 rfl rfl ?_
  refine zk_imul dX1_fits_15 ?_
  refine zk_iconst dX1_fits_16 zki_1 ?_
  refine zk_iadd dX1_fits_17 ?_
  obtain ⟨b3, h⟩ := zk_gd h
  refine zk_iaload 51 12 dX1_fits_18 (Nat.le_of_ble_eq_true rfl) rfl (zk_inb_in b3) ?_
  obtain ⟨v4, ev4, h⟩ := zk_lt h
  refine zk_istore' dX1_fits_19 ev4 (Nat.le_of_ble_eq_true rfl) rfl ?_
  refine zk_aload_n (i := 0) dX1_fits_21 rfl rfl ?_
  refine zk_getR 31 1 0 dX1_fits_22 zf_X1_9 (Nat.le_of_ble_eq_true rfl) rfl rfl ?_
  refine zk_iload_n (i := 2) dX1_fits_25 rfl rfl ?_
  obtain ⟨b5, h⟩ := zk_gd h
  refine zk_iaload 32 6 dX1_fits_26 (Nat.le_of_ble_eq_true rfl) rfl (zk_inb_in b5) ?_
  refine zk_aload_n (i := 1) dX1_fits_27 rfl rfl ?_
  refine zk_getR 46 10 6 dX1_fits_28 zf_X1_50 (Nat.le_of_ble_eq_true rfl) rfl rfl ?_
  refine zk_iload_n (i := 2) dX1_fits_31 rfl rfl ?_
  obtain ⟨b6, h⟩ := zk_gd h
  refine zk_iaload 50 6 dX1_fits_32 (Nat.le_of_ble_eq_true rfl) rfl (zk_inb_in b6) ?_
  refine zk_icmp_gt 72 dX1_fits_33 rfl (fun c13 => ?_) (fun c13 => ?_)
  · have h := zk_it _ h c13
    refine zk_iconst dX1_fits_72 zki_0 ?_
    exact zk_zreturn dX1_fits_73 rfl rfl (zk_rZ (Option.some.inj h))
  · have h := zk_if _ h c13
    refine zk_aload_n (i := 0) dX1_fits_36 rfl rfl ?_
    refine zk_getR 31 1 1 dX1_fits_37 zf_X1_15 (Nat.le_of_ble_eq_true rfl) rfl rfl ?_
    refine zk_iload_n (i := 3) dX1_fits_40 rfl rfl ?_
    obtain ⟨b7, h⟩ := zk_gd h
    refine zk_iaload 33 8 dX1_fits_41 (Nat.le_of_ble_eq_true rfl) rfl (zk_inb_in b7) ?_
    refine zk_aload_n (i := 1) dX1_fits_42 rfl rfl ?_
    refine zk_getR 46 10 4 dX1_fits_43 zf_X1_53 (Nat.le_of_ble_eq_true rfl) rfl rfl ?_
    refine zk_iload_n (i := 3) dX1_fits_46 rfl rfl ?_
    obtain ⟨b8, h⟩ := zk_gd h
    refine zk_iaload 48 8 dX1_fits_47 (Nat.le_of_ble_eq_true rfl) rfl (zk_inb_in b8) ?_
    refine zk_icmp_gt 72 dX1_fits_48 rfl (fun c12 => ?_) (fun c12 => ?_)
    · have h := zk_it _ h c12
      refine zk_iconst dX1_fits_72 zki_0 ?_
      exact zk_zreturn dX1_fits_73 rfl rfl (zk_rZ (Option.some.inj h))
    · have h := zk_if _ h c12
      refine zk_aload_n (i := 0) dX1_fits_51 rfl rfl ?_
      refine zk_getR 31 1 1 dX1_fits_52 zf_X1_15 (Nat.le_of_ble_eq_true rfl) rfl rfl ?_
      refine zk_iload dX1_fits_55 rfl ?_
      obtain ⟨b9, h⟩ := zk_gd h
      refine zk_iaload 33 8 dX1_fits_57 (Nat.le_of_ble_eq_true rfl) rfl (zk_inb_in b9) ?_
      refine zk_aload_n (i := 1) dX1_fits_58 rfl rfl ?_
      refine zk_getR 46 10 4 dX1_fits_59 zf_X1_53 (Nat.le_of_ble_eq_true rfl) rfl rfl ?_
      refine zk_iload dX1_fits_62 rfl ?_
      obtain ⟨b10, h⟩ := zk_gd h
      refine zk_iaload 48 8 dX1_fits_64 (Nat.le_of_ble_eq_true rfl) rfl (zk_inb_in b10) ?_
      refine zk_icmp_gt 72 dX1_fits_65 rfl (fun c11 => ?_) (fun c11 => ?_)
      · have h := zk_it _ h c11
        refine zk_iconst dX1_fits_72 zki_0 ?_
        exact zk_zreturn dX1_fits_73 rfl rfl (zk_rZ (Option.some.inj h))
      · have h := zk_if _ h c11
        refine zk_iconst dX1_fits_68 zki_1 ?_
        refine zk_goto 73 dX1_fits_69 rfl ?_
        exact zk_zreturn dX1_fits_73 rfl rfl (zk_rZ (Option.some.inj h))
set_option maxRecDepth 100000 in
set_option maxHeartbeats 4000000 in
theorem fPlanner_placeFrom_L57_ok {d : Nat} {Z : zkZ} (hd : 2 ≤ d) (rec : zkM → Int32 → Int32 → Option zkM) {dr : Nat} (hdr : dr < d) (hrec : ∀ (mem : zkM) (a3 a4 : Int32) (z : zkM), rec mem a3 a4 = some z → zk_X zSX dr zY_X6_placeFrom [.ref 30, .ref 46, .ref 4, .int a3, .int a4] mem (none, z)) : ∀ (n : Nat) (mem : zkM) (x3 : Int32) (x4 : Int32) (x5 : Int32) (z : zkM), fPlanner_placeFrom_L57 rec n mem x3 x4 x5 = some z → zk_J zSX d zY_X6_placeFrom Z 153 [some (.ref 30), some (.ref 46), some (.ref 4), some (.int x3), some (.int x4), none] [] z → zk_J zSX d zY_X6_placeFrom Z 57 [some (.ref 30), some (.ref 46), some (.ref 4), some (.int x3), some (.int x4), some (.int x5)] [] mem := by
  intro n
  induction n with
  | zero => intro mem x3 x4 x5 z h; cases h
  | succ n ih =>
    intro mem x3 x4 x5 z h he
    rw [fPlanner_placeFrom_L57] at h
    refine zk_iload dX6_placeFrom_57 rfl ?_
    refine zk_aload_n (i := 1) dX6_placeFrom_59 rfl rfl ?_
    refine zk_getI 46 10 1 dX6_placeFrom_60 zf_X6_66 (Nat.le_of_ble_eq_true rfl) rfl rfl ?_
    refine zk_icmp_ge 153 dX6_placeFrom_63 rfl (fun c15 => ?_) (fun c15 => ?_)
    · have h := zk_it _ h c15
      cases h
      exact zk_weak (zk_leS (zk_leS (zk_leS (zk_leS (zk_leS (zk_leN zk_leE)))))) he
    · have h := zk_if _ h c15
      refine zk_aload_n (i := 2) dX6_placeFrom_66 rfl rfl ?_
      refine zk_iload dX6_placeFrom_67 rfl ?_
      obtain ⟨q1, hq1, h⟩ := zk_ob h
      refine zk_callVi zY_X8_hasBothEnds 4 8 [_] dX6_placeFrom_69 zl_X8_hasBothEnds zc_X6_69 zk_ok8 (Nat.le_of_ble_eq_true rfl) rfl (fScene_hasBothEnds_ok (d := 1) (Nat.le_refl _) mem _ _ hq1) (by omega) (Nat.le_of_ble_eq_true rfl) ?_
      obtain ⟨q2, hq2, h⟩ := zk_ob h
      have Jq2 : zk_J zSX d zY_X6_placeFrom Z 147 [some (.ref 30), some (.ref 46), some (.ref 4), some (.int x3), some (.int x4), some (.int x5)] [] q2 := by
        refine zk_iinc2 dX6_placeFrom_147 rfl zki_1 (Nat.le_of_ble_eq_true rfl) rfl ?_
        refine zk_goto 57 dX6_placeFrom_150 rfl ?_
        exact zk_weak (zk_leS (zk_leS (zk_leS (zk_leS (zk_leS (zk_leS zk_leE)))))) (ih q2 x3 x4 (x5 + (1 : Int32)) _ h he)
      have h := hq2
      clear hq2
      refine zk_if_eq 147 dX6_placeFrom_72 rfl (fun c14 => ?_) (fun c14 => ?_)
      · have h := zk_it _ h c14
        cases h
        exact zk_weak (zk_leS (zk_leS (zk_leS (zk_leS (zk_leS (zk_leS zk_leE)))))) Jq2
      · have h := zk_if _ h c14
        refine zk_aload_n (i := 0) dX6_placeFrom_75 rfl rfl ?_
        refine zk_getR 30 6 0 dX6_placeFrom_76 zf_X6_12 (Nat.le_of_ble_eq_true rfl) rfl rfl ?_
        refine zk_aload_n (i := 1) dX6_placeFrom_79 rfl rfl ?_
        refine zk_iload dX6_placeFrom_80 rfl ?_
        refine zk_aload_n (i := 1) dX6_placeFrom_82 rfl rfl ?_
        refine zk_getR 46 10 9 dX6_placeFrom_83 zf_X6_75 (Nat.le_of_ble_eq_true rfl) rfl rfl ?_
        refine zk_iload_n (i := 3) dX6_placeFrom_86 rfl rfl ?_
        obtain ⟨b3, h⟩ := zk_gd h
        refine zk_iaload 53 5 dX6_placeFrom_87 (Nat.le_of_ble_eq_true rfl) rfl (zk_inb_in b3) ?_
        obtain ⟨q4, hq4, h⟩ := zk_ob h
        refine zk_callVv zY_X1_add 31 1 [_, _, _] dX6_placeFrom_88 zl_X1_add zc_X6_78 zk_ok1 (Nat.le_of_ble_eq_true rfl) rfl (fBurden_addP_ok (d := 0) (Nat.le_refl _) mem _ _ _ hq4) (by omega) (Nat.le_of_ble_eq_true rfl) ?_
        refine zk_aload_n (i := 0) dX6_placeFrom_91 rfl rfl ?_
        refine zk_getR 30 6 0 dX6_placeFrom_92 zf_X6_12 (Nat.le_of_ble_eq_true rfl) rfl rfl ?_
        refine zk_aload_n (i := 1) dX6_placeFrom_95 rfl rfl ?_
        refine zk_iload dX6_placeFrom_96 rfl ?_
        obtain ⟨q5, hq5, h⟩ := zk_ob h
        refine zk_callVi zY_X1_fits 31 1 [_, _] dX6_placeFrom_98 zl_X1_fits zc_X6_82 zk_ok1 (Nat.le_of_ble_eq_true rfl) rfl (fBurden_fitsP_ok (d := 0) (Nat.le_refl _) q4 _ _ hq5) (by omega) (Nat.le_of_ble_eq_true rfl) ?_
        obtain ⟨q6, hq6, h⟩ := zk_ob h
        have Jq6 : zk_J zSX d zY_X6_placeFrom Z 130 [some (.ref 30), some (.ref 46), some (.ref 4), some (.int x3), some (.int x4), some (.int x5)] [] q6 := by
          refine zk_aload_n (i := 0) dX6_placeFrom_130 rfl rfl ?_
          refine zk_getR 30 6 0 dX6_placeFrom_131 zf_X6_12 (Nat.le_of_ble_eq_true rfl) rfl rfl ?_
          refine zk_aload_n (i := 1) dX6_placeFrom_134 rfl rfl ?_
          refine zk_iload dX6_placeFrom_135 rfl ?_
          refine zk_aload_n (i := 1) dX6_placeFrom_137 rfl rfl ?_
          refine zk_getR 46 10 9 dX6_placeFrom_138 zf_X6_75 (Nat.le_of_ble_eq_true rfl) rfl rfl ?_
          refine zk_iload_n (i := 3) dX6_placeFrom_141 rfl rfl ?_
          obtain ⟨b12, h⟩ := zk_gd h
          refine zk_iaload 53 5 dX6_placeFrom_142 (Nat.le_of_ble_eq_true rfl) rfl (zk_inb_in b12) ?_
          refine zk_ineg dX6_placeFrom_143 ?_
          obtain ⟨q13, hq13, h⟩ := zk_ob h
          refine zk_callVv zY_X1_add 31 1 [_, _, _] dX6_placeFrom_144 zl_X1_add zc_X6_78 zk_ok1 (Nat.le_of_ble_eq_true rfl) rfl (fBurden_addP_ok (d := 0) (Nat.le_refl _) q6 _ _ _ hq13) (by omega) (Nat.le_of_ble_eq_true rfl) ?_
          cases h
          exact zk_weak (zk_leS (zk_leS (zk_leS (zk_leS (zk_leS (zk_leS zk_leE)))))) Jq2
        have h := hq6
        clear hq6
        refine zk_if_eq 130 dX6_placeFrom_101 rfl (fun c11 => ?_) (fun c11 => ?_)
        · have h := zk_it _ h c11
          cases h
          exact zk_weak (zk_leS (zk_leS (zk_leS (zk_leS (zk_leS (zk_leS zk_leE)))))) Jq6
        · have h := zk_if _ h c11
          refine zk_aload_n (i := 0) dX6_placeFrom_104 rfl rfl ?_
          refine zk_getR 30 6 3 dX6_placeFrom_105 zf_X6_25 (Nat.le_of_ble_eq_true rfl) rfl rfl ?_
          refine zk_iload_n (i := 3) dX6_placeFrom_108 rfl rfl ?_
          refine zk_iload dX6_placeFrom_109 rfl ?_
          obtain ⟨b7, h⟩ := zk_gd h
          obtain ⟨m8, em8, h⟩ := zk_lt h
          refine zk_iastore' 36 5 dX6_placeFrom_111 (Nat.le_of_ble_eq_true rfl) rfl (zk_inb_in b7) em8 ?_
          refine zk_aload_n (i := 0) dX6_placeFrom_112 rfl rfl ?_
          refine zk_aload_n (i := 1) dX6_placeFrom_113 rfl rfl ?_
          refine zk_aload_n (i := 2) dX6_placeFrom_114 rfl rfl ?_
          refine zk_iload_n (i := 3) dX6_placeFrom_115 rfl rfl ?_
          refine zk_iconst dX6_placeFrom_116 zki_1 ?_
          refine zk_iadd dX6_placeFrom_117 ?_
          refine zk_iload dX6_placeFrom_118 rfl ?_
          refine zk_aload_n (i := 0) dX6_placeFrom_120 rfl rfl ?_
          refine zk_getR 30 6 1 dX6_placeFrom_121 zf_X6_18 (Nat.le_of_ble_eq_true rfl) rfl rfl ?_
          refine zk_iload_n (i := 3) dX6_placeFrom_124 rfl rfl ?_
          obtain ⟨b9, h⟩ := zk_gd h
          refine zk_iaload 34 5 dX6_placeFrom_125 (Nat.le_of_ble_eq_true rfl) rfl (zk_inb_in b9) ?_
          refine zk_iadd dX6_placeFrom_126 ?_
          obtain ⟨q10, hq10, h⟩ := zk_ob h
          refine zk_callVv zY_X6_placeFrom 30 6 [_, _, _, _] dX6_placeFrom_127 zl_X6_placeFrom zc_X6_56 zk_ok6 (Nat.le_of_ble_eq_true rfl) rfl (hrec _ _ _ _ hq10) (by omega) (Nat.le_of_ble_eq_true rfl) ?_
          cases h
          exact zk_weak (zk_leS (zk_leS (zk_leS (zk_leS (zk_leS (zk_leS zk_leE)))))) Jq6
set_option maxRecDepth 100000 in
set_option maxHeartbeats 4000000 in
theorem fPlanner_placeFrom_ok : ∀ (n : Nat) {d : Nat} (hd : n + 2 ≤ d) (mem : zkM) (a3 : Int32) (a4 : Int32) (z : zkM) (h : fPlanner_placeFrom n mem a3 a4 = some z), zk_X zSX d zY_X6_placeFrom [.ref 30, .ref 46, .ref 4, .int a3, .int a4] mem (none, z) := by
  intro n
  induction n with
  | zero => intro d hd mem a3 a4 z h; cases h
  | succ n ih =>
    intro d hd mem a3 a4 z h
    rw [fPlanner_placeFrom] at h
    refine zk_meet (n := 1) (lv := [some (.ref 30), some (.ref 46), some (.ref 4), some (.int a3), some (.int a4), none]) zpn_X6 rfl (Nat.le_of_ble_eq_true rfl) ?_
    refine zk_iload_n (i := 3) dX6_placeFrom_0 rfl rfl ?_
    refine zk_aload_n (i := 1) dX6_placeFrom_1 rfl rfl ?_
    refine zk_getI 46 10 2 dX6_placeFrom_2 zf_X6_35 (Nat.le_of_ble_eq_true rfl) rfl rfl ?_
    refine zk_icmp_gt 24 dX6_placeFrom_5 rfl (fun c10 => ?_) (fun c10 => ?_)
    · have h := zk_it _ h c10
      exact zk_vreturn dX6_placeFrom_24 rfl (zk_rVw (Option.some.inj h))
    · have h := zk_if _ h c10
      refine zk_iload dX6_placeFrom_8 rfl ?_
      refine zk_aload_n (i := 0) dX6_placeFrom_10 rfl rfl ?_
      refine zk_getR 30 6 2 dX6_placeFrom_11 zf_X6_22 (Nat.le_of_ble_eq_true rfl) rfl rfl ?_
      refine zk_iload_n (i := 3) dX6_placeFrom_14 rfl rfl ?_
      obtain ⟨b1, h⟩ := zk_gd h
      refine zk_iaload 35 6 dX6_placeFrom_15 (Nat.le_of_ble_eq_true rfl) rfl (zk_inb_in b1) ?_
      refine zk_iadd dX6_placeFrom_16 ?_
      refine zk_aload_n (i := 0) dX6_placeFrom_17 rfl rfl ?_
      refine zk_getI 30 6 5 dX6_placeFrom_18 zf_X6_31 (Nat.le_of_ble_eq_true rfl) rfl rfl ?_
      refine zk_icmp_gt 25 dX6_placeFrom_21 rfl (fun c9 => ?_) (fun c9 => ?_)
      · have h := zk_it _ h c9
        refine zk_iload_n (i := 3) dX6_placeFrom_25 rfl rfl ?_
        refine zk_aload_n (i := 1) dX6_placeFrom_26 rfl rfl ?_
        refine zk_getI 46 10 2 dX6_placeFrom_27 zf_X6_35 (Nat.le_of_ble_eq_true rfl) rfl rfl ?_
        refine zk_icmp_ne 54 dX6_placeFrom_30 rfl (fun c8 => ?_) (fun c8 => ?_)
        · have h := zk_if _ h c8
          refine zk_iconst dX6_placeFrom_54 zki_0 ?_
          refine zk_istore dX6_placeFrom_55 (Nat.le_of_ble_eq_true rfl) rfl ?_
          obtain ⟨q2, hq2, h⟩ := zk_ob h
          refine zk_weak (zk_leS (zk_leS (zk_leS (zk_leS (zk_leS (zk_leS zk_leE)))))) (fPlanner_placeFrom_L57_ok (by omega) _ (dr := n + 2) (by omega) (fun mem a3 a4 z h => ih (d := n + 2) (Nat.le_refl _) mem a3 a4 z h) 500 mem a3 a4 (0 : Int32) _ hq2 ?_)
          refine zk_aload_n (i := 0) dX6_placeFrom_153 rfl rfl ?_
          refine zk_getR 30 6 3 dX6_placeFrom_154 zf_X6_25 (Nat.le_of_ble_eq_true rfl) rfl rfl ?_
          refine zk_iload_n (i := 3) dX6_placeFrom_157 rfl rfl ?_
          refine zk_bipush dX6_placeFrom_158 zkb_m9 ?_
          obtain ⟨b3, h⟩ := zk_gd h
          obtain ⟨m4, em4, h⟩ := zk_lt h
          refine zk_iastore' 36 5 dX6_placeFrom_160 (Nat.le_of_ble_eq_true rfl) rfl (zk_inb_in b3) em4 ?_
          refine zk_aload_n (i := 0) dX6_placeFrom_161 rfl rfl ?_
          refine zk_aload_n (i := 1) dX6_placeFrom_162 rfl rfl ?_
          refine zk_aload_n (i := 2) dX6_placeFrom_163 rfl rfl ?_
          refine zk_iload_n (i := 3) dX6_placeFrom_164 rfl rfl ?_
          refine zk_iconst dX6_placeFrom_165 zki_1 ?_
          refine zk_iadd dX6_placeFrom_166 ?_
          refine zk_iload dX6_placeFrom_167 rfl ?_
          obtain ⟨q5, hq5, h⟩ := zk_ob h
          refine zk_callVv zY_X6_placeFrom 30 6 [_, _, _, _] dX6_placeFrom_169 zl_X6_placeFrom zc_X6_56 zk_ok6 (Nat.le_of_ble_eq_true rfl) rfl (ih (d := n + 2) (Nat.le_refl _) _ _ _ _ hq5) (by omega) (Nat.le_of_ble_eq_true rfl) ?_
          exact zk_vreturn dX6_placeFrom_172 rfl (zk_rVw (Option.some.inj h))
        · have h := zk_it _ h c8
          refine zk_aload_n (i := 0) dX6_placeFrom_33 rfl rfl ?_
          refine zk_iload dX6_placeFrom_34 rfl ?_
          obtain ⟨m6, em6, h⟩ := zk_lt h
          refine zk_putI' 30 6 5 dX6_placeFrom_36 zp_X6_31 (Nat.le_of_ble_eq_true rfl) rfl rfl em6 ?_
          refine zk_aload_n (i := 0) dX6_placeFrom_39 rfl rfl ?_
          refine zk_getR 30 6 3 dX6_placeFrom_40 zf_X6_25 (Nat.le_of_ble_eq_true rfl) rfl rfl ?_
          refine zk_iconst dX6_placeFrom_43 zki_0 ?_
          refine zk_aload_n (i := 0) dX6_placeFrom_44 rfl rfl ?_
          refine zk_getR 30 6 4 dX6_placeFrom_45 zf_X6_28 (Nat.le_of_ble_eq_true rfl) rfl rfl ?_
          refine zk_iconst dX6_placeFrom_48 zki_0 ?_
          refine zk_iconst dX6_placeFrom_49 zki_5 ?_
          obtain ⟨m7, em7, h⟩ := zk_lt h
          refine zk_copyI 36 37 5 5 5 dX6_placeFrom_50 zc_X6_60 zac (Nat.le_of_ble_eq_true rfl) (Nat.le_of_ble_eq_true rfl) rfl rfl (by decide) (by decide) (by decide) (by decide) (Nat.le_of_ble_eq_true rfl) em7 ?_
          exact zk_vreturn dX6_placeFrom_53 rfl (zk_rVw (Option.some.inj h))
      · have h := zk_if _ h c9
        exact zk_vreturn dX6_placeFrom_24 rfl (zk_rVw (Option.some.inj h))
set_option maxRecDepth 100000 in
set_option maxHeartbeats 4000000 in
theorem fPlanner_seek_L17_ok {d : Nat} {Z : zkZ} (hd : 15 ≤ d)  : ∀ (n : Nat) (mem : zkM) (x3 : Int32) (z : zkM), fPlanner_seek_L17 n mem x3 = some z → zk_J zSX d zY_X6_seek Z 52 [some (.ref 30), some (.ref 46), some (.ref 4), none] [] z → zk_J zSX d zY_X6_seek Z 17 [some (.ref 30), some (.ref 46), some (.ref 4), some (.int x3)] [] mem := by
  intro n
  induction n with
  | zero => intro mem x3 z h; cases h
  | succ n ih =>
    intro mem x3 z h he
    rw [fPlanner_seek_L17] at h
    refine zk_iload_n (i := 3) dX6_seek_17 rfl rfl ?_
    refine zk_if_lt 52 dX6_seek_18 rfl (fun c5 => ?_) (fun c5 => ?_)
    · have h := zk_it _ h c5
      cases h
      exact zk_weak (zk_leS (zk_leS (zk_leS (zk_leN zk_leE)))) he
    · have h := zk_if _ h c5
      refine zk_aload_n (i := 0) dX6_seek_21 rfl rfl ?_
      refine zk_getR 30 6 2 dX6_seek_22 zf_X6_22 (Nat.le_of_ble_eq_true rfl) rfl rfl ?_
      refine zk_iload_n (i := 3) dX6_seek_25 rfl rfl ?_
      refine zk_aload_n (i := 0) dX6_seek_26 rfl rfl ?_
      refine zk_getR 30 6 2 dX6_seek_27 zf_X6_22 (Nat.le_of_ble_eq_true rfl) rfl rfl ?_
      refine zk_iload_n (i := 3) dX6_seek_30 rfl rfl ?_
      refine zk_iconst dX6_seek_31 zki_1 ?_
      refine zk_iadd dX6_seek_32 ?_
      obtain ⟨b1, h⟩ := zk_gd h
      refine zk_iaload 35 6 dX6_seek_33 (Nat.le_of_ble_eq_true rfl) rfl (zk_inb_in b1) ?_
      refine zk_iconst dX6_seek_34 zki_0 ?_
      refine zk_aload_n (i := 0) dX6_seek_35 rfl rfl ?_
      refine zk_getR 30 6 1 dX6_seek_36 zf_X6_18 (Nat.le_of_ble_eq_true rfl) rfl rfl ?_
      refine zk_iload_n (i := 3) dX6_seek_39 rfl rfl ?_
      obtain ⟨b2, h⟩ := zk_gd h
      refine zk_iaload 34 5 dX6_seek_40 (Nat.le_of_ble_eq_true rfl) rfl (zk_inb_in b2) ?_
      refine zk_mmax dX6_seek_41 zc_X6_47 zm_max (Nat.le_of_ble_eq_true rfl) ?_
      refine zk_iadd dX6_seek_44 ?_
      obtain ⟨b3, h⟩ := zk_gd h
      obtain ⟨m4, em4, h⟩ := zk_lt h
      refine zk_iastore' 35 6 dX6_seek_45 (Nat.le_of_ble_eq_true rfl) rfl (zk_inb_in b3) em4 ?_
      refine zk_iinc2 dX6_seek_46 rfl zki_m1 (Nat.le_of_ble_eq_true rfl) rfl ?_
      refine zk_goto 17 dX6_seek_49 rfl ?_
      exact zk_weak (zk_leS (zk_leS (zk_leS (zk_leS zk_leE)))) (ih m4 (x3 + (-1 : Int32)) _ h he)
set_option maxRecDepth 100000 in
set_option maxHeartbeats 4000000 in
theorem fPlanner_seek_ok {d : Nat} (hd : 15 ≤ d) (mem : zkM) (z : zkM) (h : fPlanner_seek mem = some z) : zk_X zSX d zY_X6_seek [.ref 30, .ref 46, .ref 4] mem (none, z) := by
  unfold fPlanner_seek at h
  refine zk_meet (n := 1) (lv := [some (.ref 30), some (.ref 46), some (.ref 4), none]) zpn_X6 rfl (Nat.le_of_ble_eq_true rfl) ?_
  refine zk_aload_n (i := 0) dX6_seek_0 rfl rfl ?_
  refine zk_getR 30 6 2 dX6_seek_1 zf_X6_22 (Nat.le_of_ble_eq_true rfl) rfl rfl ?_
  refine zk_aload_n (i := 1) dX6_seek_4 rfl rfl ?_
  refine zk_getI 46 10 2 dX6_seek_5 zf_X6_35 (Nat.le_of_ble_eq_true rfl) rfl rfl ?_
  refine zk_iconst dX6_seek_8 zki_0 ?_
  obtain ⟨b1, h⟩ := zk_gd h
  obtain ⟨m2, em2, h⟩ := zk_lt h
  refine zk_iastore' 35 6 dX6_seek_9 (Nat.le_of_ble_eq_true rfl) rfl (zk_inb_in b1) em2 ?_
  refine zk_aload_n (i := 1) dX6_seek_10 rfl rfl ?_
  refine zk_getI 46 10 2 dX6_seek_11 zf_X6_35 (Nat.le_of_ble_eq_true rfl) rfl rfl ?_
  refine zk_iconst dX6_seek_14 zki_1 ?_
  refine zk_isub dX6_seek_15 ?_
  obtain ⟨v3, ev3, h⟩ := zk_lt h
  refine zk_istore_n' (i := 3) dX6_seek_16 rfl ev3 (Nat.le_of_ble_eq_true rfl) rfl ?_
  obtain ⟨q4, hq4, h⟩ := zk_ob h
  refine zk_weak (zk_leS (zk_leS (zk_leS (zk_leS zk_leE)))) (fPlanner_seek_L17_ok hd 500 m2 v3 _ hq4 ?_)
  refine zk_aload_n (i := 0) dX6_seek_52 rfl rfl ?_
  refine zk_getR 30 6 0 dX6_seek_53 zf_X6_12 (Nat.le_of_ble_eq_true rfl) rfl rfl ?_
  obtain ⟨q5, hq5, h⟩ := zk_ob h
  refine zk_callVv zY_X1_empty 31 1 [] dX6_seek_56 zl_X1_empty zc_X6_53 zk_ok1 (Nat.le_of_ble_eq_true rfl) rfl (fBurden_emptyP_ok (d := 0) (Nat.le_refl _) q4  _ hq5) (Nat.lt_of_lt_of_le (by decide) hd) (Nat.le_of_ble_eq_true rfl) ?_
  refine zk_aload_n (i := 0) dX6_seek_59 rfl rfl ?_
  refine zk_iconst dX6_seek_60 zki_m1 ?_
  obtain ⟨m6, em6, h⟩ := zk_lt h
  refine zk_putI' 30 6 5 dX6_seek_61 zp_X6_31 (Nat.le_of_ble_eq_true rfl) rfl rfl em6 ?_
  refine zk_aload_n (i := 0) dX6_seek_64 rfl rfl ?_
  refine zk_aload_n (i := 1) dX6_seek_65 rfl rfl ?_
  refine zk_aload_n (i := 2) dX6_seek_66 rfl rfl ?_
  refine zk_iconst dX6_seek_67 zki_0 ?_
  refine zk_iconst dX6_seek_68 zki_0 ?_
  obtain ⟨q7, hq7, h⟩ := zk_ob h
  refine zk_callVv zY_X6_placeFrom 30 6 [_, _, _, _] dX6_seek_69 zl_X6_placeFrom zc_X6_56 zk_ok6 (Nat.le_of_ble_eq_true rfl) rfl (fPlanner_placeFrom_ok 12 (d := 12 + 2) (Nat.le_refl _) m6 _ _ _ hq7) (Nat.lt_of_lt_of_le (by decide) hd) (Nat.le_of_ble_eq_true rfl) ?_
  exact zk_vreturn dX6_seek_72 rfl (zk_rVw (Option.some.inj h))
set_option maxRecDepth 100000 in
set_option maxHeartbeats 4000000 in
theorem fPlanner_seekMost_L2_ok {d : Nat} {Z : zkZ} (hd : 16 ≤ d)  : ∀ (n : Nat) (mem : zkM) (x3 : Int32) (z : zkM), fPlanner_seekMost_L2 n mem x3 = some z → zk_J zSX d zY_X6_seekMost Z 23 [some (.ref 30), some (.ref 46), some (.ref 4), none] [] z → zk_J zSX d zY_X6_seekMost Z 2 [some (.ref 30), some (.ref 46), some (.ref 4), some (.int x3)] [] mem := by
  intro n
  induction n with
  | zero => intro mem x3 z h; cases h
  | succ n ih =>
    intro mem x3 z h he
    rw [fPlanner_seekMost_L2] at h
    refine zk_iload_n (i := 3) dX6_seekMost_2 rfl rfl ?_
    refine zk_aload_n (i := 1) dX6_seekMost_3 rfl rfl ?_
    refine zk_getI 46 10 2 dX6_seekMost_4 zf_X6_35 (Nat.le_of_ble_eq_true rfl) rfl rfl ?_
    refine zk_icmp_ge 23 dX6_seekMost_7 rfl (fun c3 => ?_) (fun c3 => ?_)
    · have h := zk_it _ h c3
      cases h
      exact zk_weak (zk_leS (zk_leS (zk_leS (zk_leN zk_leE)))) he
    · have h := zk_if _ h c3
      refine zk_aload_n (i := 0) dX6_seekMost_10 rfl rfl ?_
      refine zk_getR 30 6 1 dX6_seekMost_11 zf_X6_18 (Nat.le_of_ble_eq_true rfl) rfl rfl ?_
      refine zk_iload_n (i := 3) dX6_seekMost_14 rfl rfl ?_
      refine zk_iconst dX6_seekMost_15 zki_1 ?_
      obtain ⟨b1, h⟩ := zk_gd h
      obtain ⟨m2, em2, h⟩ := zk_lt h
      refine zk_iastore' 34 5 dX6_seekMost_16 (Nat.le_of_ble_eq_true rfl) rfl (zk_inb_in b1) em2 ?_
      refine zk_iinc2 dX6_seekMost_17 rfl zki_1 (Nat.le_of_ble_eq_true rfl) rfl ?_
      refine zk_goto 2 dX6_seekMost_20 rfl ?_
      exact zk_weak (zk_leS (zk_leS (zk_leS (zk_leS zk_leE)))) (ih m2 (x3 + (1 : Int32)) _ h he)
set_option maxRecDepth 100000 in
set_option maxHeartbeats 4000000 in
theorem fPlanner_seekMost_ok {d : Nat} (hd : 16 ≤ d) (mem : zkM) (z : zkM) (h : fPlanner_seekMost mem = some z) : zk_X zSX d zY_X6_seekMost [.ref 30, .ref 46, .ref 4] mem (none, z) := by
  unfold fPlanner_seekMost at h
  refine zk_meet (n := 1) (lv := [some (.ref 30), some (.ref 46), some (.ref 4), none]) zpn_X6 rfl (Nat.le_of_ble_eq_true rfl) ?_
  refine zk_iconst dX6_seekMost_0 zki_0 ?_
  refine zk_istore_n (i := 3) dX6_seekMost_1 rfl (Nat.le_of_ble_eq_true rfl) rfl ?_
  obtain ⟨q1, hq1, h⟩ := zk_ob h
  refine zk_weak (zk_leS (zk_leS (zk_leS (zk_leS zk_leE)))) (fPlanner_seekMost_L2_ok hd 500 mem (0 : Int32) _ hq1 ?_)
  refine zk_aload_n (i := 0) dX6_seekMost_23 rfl rfl ?_
  refine zk_aload_n (i := 1) dX6_seekMost_24 rfl rfl ?_
  refine zk_aload_n (i := 2) dX6_seekMost_25 rfl rfl ?_
  obtain ⟨q2, hq2, h⟩ := zk_ob h
  refine zk_callVv zY_X6_seek 30 6 [_, _] dX6_seekMost_26 zl_X6_seek zc_X6_40 zk_ok6 (Nat.le_of_ble_eq_true rfl) rfl (fPlanner_seek_ok (d := 15) (Nat.le_refl _) q1  _ hq2) (Nat.lt_of_lt_of_le (by decide) hd) (Nat.le_of_ble_eq_true rfl) ?_
  exact zk_vreturn dX6_seekMost_29 rfl (zk_rVw (Option.some.inj h))
set_option maxRecDepth 100000 in
set_option maxHeartbeats 4000000 in
theorem fPlanner_placeOf_ok {d : Nat} (hd : 0 ≤ d) (mem : zkM) (a1 : Int32) (z : Int32) (h : fPlanner_placeOf mem a1 = some z) : zk_X zSX d zY_X6_placeOf [.ref 30, .int a1] mem (some (.int z), mem) := by
  unfold fPlanner_placeOf at h
  refine zk_meet (n := 0) (lv := [some (.ref 30), some (.int a1)]) zpn_X6 rfl (Nat.le_of_ble_eq_true rfl) ?_
  refine zk_aload_n (i := 0) dX6_placeOf_0 rfl rfl ?_
  refine zk_getR 30 6 4 dX6_placeOf_1 zf_X6_28 (Nat.le_of_ble_eq_true rfl) rfl rfl ?_
  refine zk_iload_n (i := 1) dX6_placeOf_4 rfl rfl ?_
  obtain ⟨b1, h⟩ := zk_gd h
  refine zk_iaload 37 5 dX6_placeOf_5 (Nat.le_of_ble_eq_true rfl) rfl (zk_inb_in b1) ?_
  refine zk_bipush dX6_placeOf_6 zkb_m9 ?_
  refine zk_icmp_ne 16 dX6_placeOf_8 rfl (fun c3 => ?_) (fun c3 => ?_)
  · have h := zk_if _ h c3
    refine zk_aload_n (i := 0) dX6_placeOf_16 rfl rfl ?_
    refine zk_getR 30 6 4 dX6_placeOf_17 zf_X6_28 (Nat.le_of_ble_eq_true rfl) rfl rfl ?_
    refine zk_iload_n (i := 1) dX6_placeOf_20 rfl rfl ?_
    obtain ⟨b2, h⟩ := zk_gd h
    refine zk_iaload 37 5 dX6_placeOf_21 (Nat.le_of_ble_eq_true rfl) rfl (zk_inb_in b2) ?_
    exact zk_ireturn dX6_placeOf_22 rfl (zk_rI (Option.some.inj h))
  · have h := zk_it _ h c3
    refine zk_bipush dX6_placeOf_11 zkb_m5 ?_
    refine zk_goto 22 dX6_placeOf_13 rfl ?_
    exact zk_ireturn dX6_placeOf_22 rfl (zk_rI (Option.some.inj h))
set_option maxRecDepth 100000 in
set_option maxHeartbeats 4000000 in
theorem fPlanner_howMany_L4_ok {d : Nat} {Z : zkZ} (hd : 0 ≤ d)  : ∀ (n : Nat) (mem : zkM) (x2 : Int32) (x3 : Int32) (z : Int32), fPlanner_howMany_L4 n mem x2 x3 = some z → zk_J zSX d zY_X6_howMany Z 37 [none, none, some (.int z), none] [] mem → zk_J zSX d zY_X6_howMany Z 4 [some (.ref 30), some (.ref 46), some (.int x2), some (.int x3)] [] mem := by
  intro n
  induction n with
  | zero => intro mem x2 x3 z h; cases h
  | succ n ih =>
    intro mem x2 x3 z h he
    rw [fPlanner_howMany_L4] at h
    refine zk_iload_n (i := 3) dX6_howMany_4 rfl rfl ?_
    refine zk_aload_n (i := 1) dX6_howMany_5 rfl rfl ?_
    refine zk_getI 46 10 2 dX6_howMany_6 zf_X6_35 (Nat.le_of_ble_eq_true rfl) rfl rfl ?_
    refine zk_icmp_ge 37 dX6_howMany_9 rfl (fun c5 => ?_) (fun c5 => ?_)
    · have h := zk_it _ h c5
      cases h
      exact zk_weak (zk_leN (zk_leN (zk_leS (zk_leN zk_leE)))) he
    · have h := zk_if _ h c5
      refine zk_iload_n (i := 2) dX6_howMany_12 rfl rfl ?_
      refine zk_aload_n (i := 0) dX6_howMany_13 rfl rfl ?_
      refine zk_getR 30 6 4 dX6_howMany_14 zf_X6_28 (Nat.le_of_ble_eq_true rfl) rfl rfl ?_
      refine zk_iload_n (i := 3) dX6_howMany_17 rfl rfl ?_
      obtain ⟨b1, h⟩ := zk_gd h
      refine zk_iaload 37 5 dX6_howMany_18 (Nat.le_of_ble_eq_true rfl) rfl (zk_inb_in b1) ?_
      refine zk_bipush dX6_howMany_19 zkb_m9 ?_
      obtain ⟨q2, hq2, h⟩ := zk_lt h
      have Jq2 : zk_J zSX d zY_X6_howMany Z 29 [some (.ref 30), some (.ref 46), none, some (.int x3)] [.int (zk_b q2), .int x2] mem := by
        refine zk_iadd dX6_howMany_29 ?_
        obtain ⟨v4, ev4, h⟩ := zk_lt h
        refine zk_istore_n' (i := 2) dX6_howMany_30 rfl ev4 (Nat.le_of_ble_eq_true rfl) rfl ?_
        refine zk_iinc2 dX6_howMany_31 rfl zki_1 (Nat.le_of_ble_eq_true rfl) rfl ?_
        refine zk_goto 4 dX6_howMany_34 rfl ?_
        exact zk_weak (zk_leS (zk_leS (zk_leS (zk_leS zk_leE)))) (ih mem v4 (x3 + (1 : Int32)) _ h he)
      have h := hq2
      clear hq2
      refine zk_icmp_ne 28 dX6_howMany_21 rfl (fun c3 => ?_) (fun c3 => ?_)
      · have h := zk_if _ h c3
        refine zk_iconst dX6_howMany_28 zki_1 ?_
        subst h
        exact zk_weak (zk_leS (zk_leS (zk_leN (zk_leS zk_leE)))) Jq2
      · have h := zk_it _ h c3
        refine zk_iconst dX6_howMany_24 zki_0 ?_
        refine zk_goto 29 dX6_howMany_25 rfl ?_
        subst h
        exact zk_weak (zk_leS (zk_leS (zk_leN (zk_leS zk_leE)))) Jq2
set_option maxRecDepth 100000 in
set_option maxHeartbeats 4000000 in
theorem fPlanner_howMany_ok {d : Nat} (hd : 0 ≤ d) (mem : zkM) (z : Int32) (h : fPlanner_howMany mem = some z) : zk_X zSX d zY_X6_howMany [.ref 30, .ref 46] mem (some (.int z), mem) := by
  unfold fPlanner_howMany at h
  refine zk_meet (n := 2) (lv := [some (.ref 30), some (.ref 46), none, none]) zpn_X6 rfl (Nat.le_of_ble_eq_true rfl) ?_
  refine zk_iconst dX6_howMany_0 zki_0 ?_
  refine zk_istore_n (i := 2) dX6_howMany_1 rfl (Nat.le_of_ble_eq_true rfl) rfl ?_
  refine zk_iconst dX6_howMany_2 zki_0 ?_
  refine zk_istore_n (i := 3) dX6_howMany_3 rfl (Nat.le_of_ble_eq_true rfl) rfl ?_
  obtain ⟨q1, hq1, h⟩ := zk_ob h
  refine zk_weak (zk_leS (zk_leS (zk_leS (zk_leS zk_leE)))) (fPlanner_howMany_L4_ok hd 500 mem (0 : Int32) (0 : Int32) _ hq1 ?_)
  refine zk_iload_n (i := 2) dX6_howMany_37 rfl rfl ?_
  exact zk_ireturn dX6_howMany_38 rfl (zk_rI (Option.some.inj h))
set_option maxRecDepth 100000 in
set_option maxHeartbeats 4000000 in
theorem fTp_most_ok {d : Nat} (hd : 17 ≤ d) (mem : zkM) (a1 : Int32) (z : Int32 × zkM) (h : fTp_most mem a1 = some z) : zk_X zSX d zY_X11_most [.ref 0, .int a1] mem (some (.int z.1), z.2) := by
  unfold fTp_most at h
  refine zk_meet (n := 0) (lv := [some (.ref 0), some (.int a1)]) zpn_X11 rfl (Nat.le_of_ble_eq_true rfl) ?_
  refine zk_iload_n (i := 1) dX11_most_0 rfl rfl ?_
  refine zk_bipush dX11_most_1 zkb_m9 ?_
  refine zk_icmp_eq 16 dX11_most_3 rfl (fun c10 => ?_) (fun c10 => ?_)
  · have h := zk_it _ h c10
    refine zk_aload_n (i := 0) dX11_most_16 rfl rfl ?_
    refine zk_getR 0 11 6 dX11_most_17 zf_X11_54 (Nat.le_of_ble_eq_true rfl) rfl rfl ?_
    refine zk_aload_n (i := 0) dX11_most_20 rfl rfl ?_
    refine zk_getR 0 11 10 dX11_most_21 zf_X11_82 (Nat.le_of_ble_eq_true rfl) rfl rfl ?_
    refine zk_aload_n (i := 0) dX11_most_24 rfl rfl ?_
    refine zk_getR 0 11 1 dX11_most_25 zf_X11_19 (Nat.le_of_ble_eq_true rfl) rfl rfl ?_
    obtain ⟨q1, hq1, h⟩ := zk_ob h
    refine zk_callVv zY_X6_seekMost 30 6 [_, _] dX11_most_28 zl_X6_seekMost zc_X11_227 zk_ok6 (Nat.le_of_ble_eq_true rfl) rfl (fPlanner_seekMost_ok (d := 16) (Nat.le_refl _) mem  _ hq1) (Nat.lt_of_lt_of_le (by decide) hd) (Nat.le_of_ble_eq_true rfl) ?_
    refine zk_iload_n (i := 1) dX11_most_31 rfl rfl ?_
    refine zk_bipush dX11_most_32 zkb_m9 ?_
    refine zk_icmp_ne 51 dX11_most_34 rfl (fun c4 => ?_) (fun c4 => ?_)
    · have h := zk_if _ h c4
      refine zk_aload_n (i := 0) dX11_most_51 rfl rfl ?_
      refine zk_getR 0 11 6 dX11_most_52 zf_X11_54 (Nat.le_of_ble_eq_true rfl) rfl rfl ?_
      refine zk_iload_n (i := 1) dX11_most_55 rfl rfl ?_
      obtain ⟨q2, hq2, h⟩ := zk_ob h
      refine zk_callVi zY_X6_placeOf 30 6 [_] dX11_most_56 zl_X6_placeOf zc_X11_233 zk_ok6 (Nat.le_of_ble_eq_true rfl) rfl (fPlanner_placeOf_ok (d := 0) (Nat.le_refl _) q1 _ _ hq2) (Nat.lt_of_lt_of_le (by decide) hd) (Nat.le_of_ble_eq_true rfl) ?_
      exact zk_ireturn dX11_most_59 rfl (zk_rIw (Option.some.inj h))
    · have h := zk_it _ h c4
      refine zk_aload_n (i := 0) dX11_most_37 rfl rfl ?_
      refine zk_getR 0 11 6 dX11_most_38 zf_X11_54 (Nat.le_of_ble_eq_true rfl) rfl rfl ?_
      refine zk_aload_n (i := 0) dX11_most_41 rfl rfl ?_
      refine zk_getR 0 11 10 dX11_most_42 zf_X11_82 (Nat.le_of_ble_eq_true rfl) rfl rfl ?_
      obtain ⟨q3, hq3, h⟩ := zk_ob h
      refine zk_callVi zY_X6_howMany 30 6 [_] dX11_most_45 zl_X6_howMany zc_X11_230 zk_ok6 (Nat.le_of_ble_eq_true rfl) rfl (fPlanner_howMany_ok (d := 0) (Nat.le_refl _) q1  _ hq3) (Nat.lt_of_lt_of_le (by decide) hd) (Nat.le_of_ble_eq_true rfl) ?_
      refine zk_goto 59 dX11_most_48 rfl ?_
      exact zk_ireturn dX11_most_59 rfl (zk_rIw (Option.some.inj h))
  · have h := zk_if _ h c10
    refine zk_aload_n (i := 0) dX11_most_6 rfl rfl ?_
    refine zk_iload_n (i := 1) dX11_most_7 rfl rfl ?_
    refine zk_callVi zY_X11_isChild 0 11 [_] dX11_most_8 zl_X11_isChild zc_X11_166 zk_ok11 (Nat.le_of_ble_eq_true rfl) rfl (fTp_isChild_ok (d := 1) (Nat.le_refl _) mem _ _ rfl) (Nat.lt_of_lt_of_le (by decide) hd) (Nat.le_of_ble_eq_true rfl) ?_
    refine zk_if_ne 16 dX11_most_11 rfl (fun c9 => ?_) (fun c9 => ?_)
    · have h := zk_if _ h c9
      refine zk_aload_n (i := 0) dX11_most_16 rfl rfl ?_
      refine zk_getR 0 11 6 dX11_most_17 zf_X11_54 (Nat.le_of_ble_eq_true rfl) rfl rfl ?_
      refine zk_aload_n (i := 0) dX11_most_20 rfl rfl ?_
      refine zk_getR 0 11 10 dX11_most_21 zf_X11_82 (Nat.le_of_ble_eq_true rfl) rfl rfl ?_
      refine zk_aload_n (i := 0) dX11_most_24 rfl rfl ?_
      refine zk_getR 0 11 1 dX11_most_25 zf_X11_19 (Nat.le_of_ble_eq_true rfl) rfl rfl ?_
      obtain ⟨q5, hq5, h⟩ := zk_ob h
      refine zk_callVv zY_X6_seekMost 30 6 [_, _] dX11_most_28 zl_X6_seekMost zc_X11_227 zk_ok6 (Nat.le_of_ble_eq_true rfl) rfl (fPlanner_seekMost_ok (d := 16) (Nat.le_refl _) mem  _ hq5) (Nat.lt_of_lt_of_le (by decide) hd) (Nat.le_of_ble_eq_true rfl) ?_
      refine zk_iload_n (i := 1) dX11_most_31 rfl rfl ?_
      refine zk_bipush dX11_most_32 zkb_m9 ?_
      refine zk_icmp_ne 51 dX11_most_34 rfl (fun c8 => ?_) (fun c8 => ?_)
      · have h := zk_if _ h c8
        refine zk_aload_n (i := 0) dX11_most_51 rfl rfl ?_
        refine zk_getR 0 11 6 dX11_most_52 zf_X11_54 (Nat.le_of_ble_eq_true rfl) rfl rfl ?_
        refine zk_iload_n (i := 1) dX11_most_55 rfl rfl ?_
        obtain ⟨q6, hq6, h⟩ := zk_ob h
        refine zk_callVi zY_X6_placeOf 30 6 [_] dX11_most_56 zl_X6_placeOf zc_X11_233 zk_ok6 (Nat.le_of_ble_eq_true rfl) rfl (fPlanner_placeOf_ok (d := 0) (Nat.le_refl _) q5 _ _ hq6) (Nat.lt_of_lt_of_le (by decide) hd) (Nat.le_of_ble_eq_true rfl) ?_
        exact zk_ireturn dX11_most_59 rfl (zk_rIw (Option.some.inj h))
      · have h := zk_it _ h c8
        refine zk_aload_n (i := 0) dX11_most_37 rfl rfl ?_
        refine zk_getR 0 11 6 dX11_most_38 zf_X11_54 (Nat.le_of_ble_eq_true rfl) rfl rfl ?_
        refine zk_aload_n (i := 0) dX11_most_41 rfl rfl ?_
        refine zk_getR 0 11 10 dX11_most_42 zf_X11_82 (Nat.le_of_ble_eq_true rfl) rfl rfl ?_
        obtain ⟨q7, hq7, h⟩ := zk_ob h
        refine zk_callVi zY_X6_howMany 30 6 [_] dX11_most_45 zl_X6_howMany zc_X11_230 zk_ok6 (Nat.le_of_ble_eq_true rfl) rfl (fPlanner_howMany_ok (d := 0) (Nat.le_refl _) q5  _ hq7) (Nat.lt_of_lt_of_le (by decide) hd) (Nat.le_of_ble_eq_true rfl) ?_
        refine zk_goto 59 dX11_most_48 rfl ?_
        exact zk_ireturn dX11_most_59 rfl (zk_rIw (Option.some.inj h))
    · have h := zk_it _ h c9
      refine zk_iconst dX11_most_14 zki_m1 ?_
      exact zk_ireturn dX11_most_15 rfl (zk_rIw (Option.some.inj h))
set_option maxRecDepth 100000 in
set_option maxHeartbeats 4000000 in
theorem fPlanner_seekRichest_L2_ok {d : Nat} {Z : zkZ} (hd : 16 ≤ d)  : ∀ (n : Nat) (mem : zkM) (x3 : Int32) (z : zkM), fPlanner_seekRichest_L2 n mem x3 = some z → zk_J zSX d zY_X6_seekRichest Z 33 [some (.ref 30), some (.ref 46), some (.ref 4), none] [] z → zk_J zSX d zY_X6_seekRichest Z 2 [some (.ref 30), some (.ref 46), some (.ref 4), some (.int x3)] [] mem := by
  intro n
  induction n with
  | zero => intro mem x3 z h; cases h
  | succ n ih =>
    intro mem x3 z h he
    rw [fPlanner_seekRichest_L2] at h
    refine zk_iload_n (i := 3) dX6_seekRichest_2 rfl rfl ?_
    refine zk_aload_n (i := 1) dX6_seekRichest_3 rfl rfl ?_
    refine zk_getI 46 10 2 dX6_seekRichest_4 zf_X6_35 (Nat.le_of_ble_eq_true rfl) rfl rfl ?_
    refine zk_icmp_ge 33 dX6_seekRichest_7 rfl (fun c4 => ?_) (fun c4 => ?_)
    · have h := zk_it _ h c4
      cases h
      exact zk_weak (zk_leS (zk_leS (zk_leS (zk_leN zk_leE)))) he
    · have h := zk_if _ h c4
      refine zk_aload_n (i := 0) dX6_seekRichest_10 rfl rfl ?_
      refine zk_getR 30 6 1 dX6_seekRichest_11 zf_X6_18 (Nat.le_of_ble_eq_true rfl) rfl rfl ?_
      refine zk_iload_n (i := 3) dX6_seekRichest_14 rfl rfl ?_
      refine zk_bipush dX6_seekRichest_15 zkb_10 ?_
      refine zk_aload_n (i := 1) dX6_seekRichest_17 rfl rfl ?_
      refine zk_getR 46 10 10 dX6_seekRichest_18 zf_X6_44 (Nat.le_of_ble_eq_true rfl) rfl rfl ?_
      refine zk_iload_n (i := 3) dX6_seekRichest_21 rfl rfl ?_
      obtain ⟨b1, h⟩ := zk_gd h
      refine zk_iaload 54 5 dX6_seekRichest_22 (Nat.le_of_ble_eq_true rfl) rfl (zk_inb_in b1) ?_
      refine zk_imul dX6_seekRichest_23 ?_
      refine zk_iconst dX6_seekRichest_24 zki_1 ?_
      refine zk_isub dX6_seekRichest_25 ?_
      obtain ⟨b2, h⟩ := zk_gd h
      obtain ⟨m3, em3, h⟩ := zk_lt h
      refine zk_iastore' 34 5 dX6_seekRichest_26 (Nat.le_of_ble_eq_true rfl) rfl (zk_inb_in b2) em3 ?_
      refine zk_iinc2 dX6_seekRichest_27 rfl zki_1 (Nat.le_of_ble_eq_true rfl) rfl ?_
      refine zk_goto 2 dX6_seekRichest_30 rfl ?_
      exact zk_weak (zk_leS (zk_leS (zk_leS (zk_leS zk_leE)))) (ih m3 (x3 + (1 : Int32)) _ h he)
set_option maxRecDepth 100000 in
set_option maxHeartbeats 4000000 in
theorem fPlanner_seekRichest_ok {d : Nat} (hd : 16 ≤ d) (mem : zkM) (z : zkM) (h : fPlanner_seekRichest mem = some z) : zk_X zSX d zY_X6_seekRichest [.ref 30, .ref 46, .ref 4] mem (none, z) := by
  unfold fPlanner_seekRichest at h
  refine zk_meet (n := 1) (lv := [some (.ref 30), some (.ref 46), some (.ref 4), none]) zpn_X6 rfl (Nat.le_of_ble_eq_true rfl) ?_
  refine zk_iconst dX6_seekRichest_0 zki_0 ?_
  refine zk_istore_n (i := 3) dX6_seekRichest_1 rfl (Nat.le_of_ble_eq_true rfl) rfl ?_
  obtain ⟨q1, hq1, h⟩ := zk_ob h
  refine zk_weak (zk_leS (zk_leS (zk_leS (zk_leS zk_leE)))) (fPlanner_seekRichest_L2_ok hd 500 mem (0 : Int32) _ hq1 ?_)
  refine zk_aload_n (i := 0) dX6_seekRichest_33 rfl rfl ?_
  refine zk_aload_n (i := 1) dX6_seekRichest_34 rfl rfl ?_
  refine zk_aload_n (i := 2) dX6_seekRichest_35 rfl rfl ?_
  obtain ⟨q2, hq2, h⟩ := zk_ob h
  refine zk_callVv zY_X6_seek 30 6 [_, _] dX6_seekRichest_36 zl_X6_seek zc_X6_40 zk_ok6 (Nat.le_of_ble_eq_true rfl) rfl (fPlanner_seek_ok (d := 15) (Nat.le_refl _) q1  _ hq2) (Nat.lt_of_lt_of_le (by decide) hd) (Nat.le_of_ble_eq_true rfl) ?_
  exact zk_vreturn dX6_seekRichest_39 rfl (zk_rVw (Option.some.inj h))
set_option maxRecDepth 100000 in
set_option maxHeartbeats 4000000 in
theorem fPlanner_howMuch_L4_ok {d : Nat} {Z : zkZ} (hd : 0 ≤ d)  : ∀ (n : Nat) (mem : zkM) (x2 : Int32) (x3 : Int32) (z : Int32), fPlanner_howMuch_L4 n mem x2 x3 = some z → zk_J zSX d zY_X6_howMuch Z 42 [none, none, some (.int z), none] [] mem → zk_J zSX d zY_X6_howMuch Z 4 [some (.ref 30), some (.ref 46), some (.int x2), some (.int x3)] [] mem := by
  intro n
  induction n with
  | zero => intro mem x2 x3 z h; cases h
  | succ n ih =>
    intro mem x2 x3 z h he
    rw [fPlanner_howMuch_L4] at h
    refine zk_iload_n (i := 3) dX6_howMuch_4 rfl rfl ?_
    refine zk_aload_n (i := 1) dX6_howMuch_5 rfl rfl ?_
    refine zk_getI 46 10 2 dX6_howMuch_6 zf_X6_35 (Nat.le_of_ble_eq_true rfl) rfl rfl ?_
    refine zk_icmp_ge 42 dX6_howMuch_9 rfl (fun c6 => ?_) (fun c6 => ?_)
    · have h := zk_it _ h c6
      cases h
      exact zk_weak (zk_leN (zk_leN (zk_leS (zk_leN zk_leE)))) he
    · have h := zk_if _ h c6
      refine zk_iload_n (i := 2) dX6_howMuch_12 rfl rfl ?_
      refine zk_aload_n (i := 0) dX6_howMuch_13 rfl rfl ?_
      refine zk_getR 30 6 4 dX6_howMuch_14 zf_X6_28 (Nat.le_of_ble_eq_true rfl) rfl rfl ?_
      refine zk_iload_n (i := 3) dX6_howMuch_17 rfl rfl ?_
      obtain ⟨b1, h⟩ := zk_gd h
      refine zk_iaload 37 5 dX6_howMuch_18 (Nat.le_of_ble_eq_true rfl) rfl (zk_inb_in b1) ?_
      refine zk_bipush dX6_howMuch_19 zkb_m9 ?_
      obtain ⟨q2, hq2, h⟩ := zk_ob h
      have Jq2 : zk_J zSX d zY_X6_howMuch Z 34 [some (.ref 30), some (.ref 46), none, some (.int x3)] [.int q2, .int x2] mem := by
        refine zk_iadd dX6_howMuch_34 ?_
        obtain ⟨v5, ev5, h⟩ := zk_lt h
        refine zk_istore_n' (i := 2) dX6_howMuch_35 rfl ev5 (Nat.le_of_ble_eq_true rfl) rfl ?_
        refine zk_iinc2 dX6_howMuch_36 rfl zki_1 (Nat.le_of_ble_eq_true rfl) rfl ?_
        refine zk_goto 4 dX6_howMuch_39 rfl ?_
        exact zk_weak (zk_leS (zk_leS (zk_leS (zk_leS zk_leE)))) (ih mem v5 (x3 + (1 : Int32)) _ h he)
      have h := hq2
      clear hq2
      refine zk_icmp_ne 28 dX6_howMuch_21 rfl (fun c4 => ?_) (fun c4 => ?_)
      · have h := zk_if _ h c4
        refine zk_aload_n (i := 1) dX6_howMuch_28 rfl rfl ?_
        refine zk_getR 46 10 10 dX6_howMuch_29 zf_X6_44 (Nat.le_of_ble_eq_true rfl) rfl rfl ?_
        refine zk_iload_n (i := 3) dX6_howMuch_32 rfl rfl ?_
        obtain ⟨b3, h⟩ := zk_gd h
        refine zk_iaload 54 5 dX6_howMuch_33 (Nat.le_of_ble_eq_true rfl) rfl (zk_inb_in b3) ?_
        cases h
        exact zk_weak (zk_leS (zk_leS (zk_leN (zk_leS zk_leE)))) Jq2
      · have h := zk_it _ h c4
        refine zk_iconst dX6_howMuch_24 zki_0 ?_
        refine zk_goto 34 dX6_howMuch_25 rfl ?_
        cases h
        exact zk_weak (zk_leS (zk_leS (zk_leN (zk_leS zk_leE)))) Jq2
set_option maxRecDepth 100000 in
set_option maxHeartbeats 4000000 in
theorem fPlanner_howMuch_ok {d : Nat} (hd : 0 ≤ d) (mem : zkM) (z : Int32) (h : fPlanner_howMuch mem = some z) : zk_X zSX d zY_X6_howMuch [.ref 30, .ref 46] mem (some (.int z), mem) := by
  unfold fPlanner_howMuch at h
  refine zk_meet (n := 2) (lv := [some (.ref 30), some (.ref 46), none, none]) zpn_X6 rfl (Nat.le_of_ble_eq_true rfl) ?_
  refine zk_iconst dX6_howMuch_0 zki_0 ?_
  refine zk_istore_n (i := 2) dX6_howMuch_1 rfl (Nat.le_of_ble_eq_true rfl) rfl ?_
  refine zk_iconst dX6_howMuch_2 zki_0 ?_
  refine zk_istore_n (i := 3) dX6_howMuch_3 rfl (Nat.le_of_ble_eq_true rfl) rfl ?_
  obtain ⟨q1, hq1, h⟩ := zk_ob h
  refine zk_weak (zk_leS (zk_leS (zk_leS (zk_leS zk_leE)))) (fPlanner_howMuch_L4_ok hd 500 mem (0 : Int32) (0 : Int32) _ hq1 ?_)
  refine zk_iload_n (i := 2) dX6_howMuch_42 rfl rfl ?_
  exact zk_ireturn dX6_howMuch_43 rfl (zk_rI (Option.some.inj h))
