set_option maxRecDepth 100000 in
set_option maxHeartbeats 4000000 in
theorem fMd_wears_ok {d : Nat} (hd : 0 ≤ d) (mem : zkM) (a0 : Int32) (a1 : Int32) (a2 : Int32) (z : Int32) (h : fMd_wears a0 a1 a2 = z) : zk_X zSM d zY_X12_wears [.int a0, .int a1, .int a2] mem (some (.int z), mem) := by
  unfold fMd_wears at h
  refine zk_meet (n := 0) (lv := [some (.int a0), some (.int a1), some (.int a2)]) zpn_X12 rfl (Nat.le_of_ble_eq_true rfl) ?_
  refine zk_iload_n (i := 0) dX12_wears_0 rfl rfl ?_
  refine zk_iconst dX12_wears_1 zki_1 ?_
  refine zk_icmp_ne 11 dX12_wears_2 rfl (fun c2 => ?_) (fun c2 => ?_)
  · have h := zk_if _ h c2
    refine zk_iload_n (i := 0) dX12_wears_11 rfl rfl ?_
    refine zk_iconst dX12_wears_12 zki_2 ?_
    refine zk_icmp_ne 24 dX12_wears_13 rfl (fun c1 => ?_) (fun c1 => ?_)
    · have h := zk_if _ h c1
      refine zk_iload_n (i := 1) dX12_wears_24 rfl rfl ?_
      refine zk_iload_n (i := 2) dX12_wears_25 rfl rfl ?_
      refine zk_imul dX12_wears_26 ?_
      refine zk_iconst dX12_wears_27 zki_3 ?_
      refine zk_idiv dX12_wears_28 (by decide) ?_
      exact zk_ireturn dX12_wears_29 rfl (zk_rI h)
    · have h := zk_it _ h c1
      refine zk_iload_n (i := 1) dX12_wears_16 rfl rfl ?_
      refine zk_iload_n (i := 2) dX12_wears_17 rfl rfl ?_
      refine zk_imul dX12_wears_18 ?_
      refine zk_iconst dX12_wears_19 zki_2 ?_
      refine zk_idiv dX12_wears_20 (by decide) ?_
      refine zk_goto 29 dX12_wears_21 rfl ?_
      exact zk_ireturn dX12_wears_29 rfl (zk_rI h)
  · have h := zk_it _ h c2
    refine zk_iload_n (i := 1) dX12_wears_5 rfl rfl ?_
    refine zk_iload_n (i := 2) dX12_wears_6 rfl rfl ?_
    refine zk_imul dX12_wears_7 ?_
    refine zk_goto 29 dX12_wears_8 rfl ?_
    exact zk_ireturn dX12_wears_29 rfl (zk_rI h)
set_option maxRecDepth 100000 in
set_option maxHeartbeats 4000000 in
theorem fMd_givesAt_ok {d : Nat} (hd : 0 ≤ d) (mem : zkM) (a0 : Int32) (z : Int32) (h : fMd_givesAt a0 = z) : zk_X zSM d zY_X12_givesAt [.int a0] mem (some (.int z), mem) := by
  unfold fMd_givesAt at h
  refine zk_meet (n := 0) (lv := [some (.int a0)]) zpn_X12 rfl (Nat.le_of_ble_eq_true rfl) ?_
  refine zk_iload_n (i := 0) dX12_givesAt_0 rfl rfl ?_
  refine zk_iconst dX12_givesAt_1 zki_1 ?_
  refine zk_icmp_ne 10 dX12_givesAt_2 rfl (fun c2 => ?_) (fun c2 => ?_)
  · have h := zk_if _ h c2
    refine zk_iload_n (i := 0) dX12_givesAt_10 rfl rfl ?_
    refine zk_iconst dX12_givesAt_11 zki_2 ?_
    refine zk_icmp_ne 20 dX12_givesAt_12 rfl (fun c1 => ?_) (fun c1 => ?_)
    · have h := zk_if _ h c1
      refine zk_bipush dX12_givesAt_20 zkb_36 ?_
      exact zk_ireturn dX12_givesAt_22 rfl (zk_rI h)
    · have h := zk_it _ h c1
      refine zk_bipush dX12_givesAt_15 zkb_20 ?_
      refine zk_goto 22 dX12_givesAt_17 rfl ?_
      exact zk_ireturn dX12_givesAt_22 rfl (zk_rI h)
  · have h := zk_it _ h c2
    refine zk_bipush dX12_givesAt_5 zkb_12 ?_
    refine zk_goto 22 dX12_givesAt_7 rfl ?_
    exact zk_ireturn dX12_givesAt_22 rfl (zk_rI h)
set_option maxRecDepth 100000 in
set_option maxHeartbeats 4000000 in
theorem fMd_blows_4_ok {d : Nat} (hd : 1 ≤ d) (mem : zkM) (a1 : Int32) (a2 : Int32) (a3 : Int32) (z : zkM) (h : fMd_blows_4 mem a1 a2 a3 = some z) : zk_X zSM d zY_X12_blows [.ref 4, .int a1, .int a2, .int a3] mem (none, z) := by
  unfold fMd_blows_4 at h
  refine zk_meet (n := 0) (lv := [some (.ref 4), some (.int a1), some (.int a2), some (.int a3)]) zpn_X12 rfl (Nat.le_of_ble_eq_true rfl) ?_
  refine zk_aload_n (i := 0) dX12_blows_0 rfl rfl ?_
  refine zk_iload_n (i := 1) dX12_blows_1 rfl rfl ?_
  refine zk_iconst dX12_blows_2 zki_2 ?_
  refine zk_iadd dX12_blows_3 ?_
  obtain ⟨b1, h⟩ := zk_gd h
  refine zk_iaload 4 42 dX12_blows_4 (Nat.le_of_ble_eq_true rfl) rfl (zk_inb_in b1) ?_
  refine zk_if_ne 73 dX12_blows_5 rfl (fun c20 => ?_) (fun c20 => ?_)
  · have h := zk_if _ h c20
    exact zk_vreturn dX12_blows_73 rfl (zk_rVw (Option.some.inj h))
  · have h := zk_it _ h c20
    refine zk_aload_n (i := 0) dX12_blows_8 rfl rfl ?_
    refine zk_iload_n (i := 1) dX12_blows_9 rfl rfl ?_
    obtain ⟨b2, h⟩ := zk_gd h
    refine zk_iaload 4 42 dX12_blows_10 (Nat.le_of_ble_eq_true rfl) rfl (zk_inb_in b2) ?_
    refine zk_if_ne 33 dX12_blows_11 rfl (fun c19 => ?_) (fun c19 => ?_)
    · have h := zk_if _ h c19
      refine zk_aload_n (i := 0) dX12_blows_33 rfl rfl ?_
      refine zk_iload_n (i := 1) dX12_blows_34 rfl rfl ?_
      refine zk_iconst dX12_blows_35 zki_1 ?_
      refine zk_iadd dX12_blows_36 ?_
      refine zk_dup2 dX12_blows_37 rfl rfl ?_
      obtain ⟨b3, h⟩ := zk_gd h
      refine zk_iaload 4 42 dX12_blows_38 (Nat.le_of_ble_eq_true rfl) rfl (zk_inb_in b3) ?_
      refine zk_aload_n (i := 0) dX12_blows_39 rfl rfl ?_
      refine zk_iload_n (i := 1) dX12_blows_40 rfl rfl ?_
      obtain ⟨b4, h⟩ := zk_gd h
      refine zk_iaload 4 42 dX12_blows_41 (Nat.le_of_ble_eq_true rfl) rfl (zk_inb_in b4) ?_
      refine zk_iload_n (i := 2) dX12_blows_42 rfl rfl ?_
      refine zk_iload_n (i := 3) dX12_blows_43 rfl rfl ?_
      refine zk_callSi zY_X12_wears [_, _, _] dX12_blows_44 zl_X12_wears zc_X12_164 (fMd_wears_ok (d := 0) (Nat.le_refl _) mem _ _ _ _ rfl) (Nat.lt_of_lt_of_le (by decide) hd) (Nat.le_of_ble_eq_true rfl) ?_
      refine zk_iadd dX12_blows_47 ?_
      obtain ⟨b5, h⟩ := zk_gd h
      obtain ⟨m6, em6, h⟩ := zk_lt h
      refine zk_iastore' 4 42 dX12_blows_48 (Nat.le_of_ble_eq_true rfl) rfl (zk_inb_in b5) em6 ?_
      refine zk_aload_n (i := 0) dX12_blows_49 rfl rfl ?_
      refine zk_iload_n (i := 1) dX12_blows_50 rfl rfl ?_
      refine zk_iconst dX12_blows_51 zki_2 ?_
      refine zk_iadd dX12_blows_52 ?_
      refine zk_aload_n (i := 0) dX12_blows_53 rfl rfl ?_
      refine zk_iload_n (i := 1) dX12_blows_54 rfl rfl ?_
      refine zk_iconst dX12_blows_55 zki_1 ?_
      refine zk_iadd dX12_blows_56 ?_
      obtain ⟨b7, h⟩ := zk_gd h
      refine zk_iaload 4 42 dX12_blows_57 (Nat.le_of_ble_eq_true rfl) rfl (zk_inb_in b7) ?_
      refine zk_aload_n (i := 0) dX12_blows_58 rfl rfl ?_
      refine zk_iload_n (i := 1) dX12_blows_59 rfl rfl ?_
      obtain ⟨b8, h⟩ := zk_gd h
      refine zk_iaload 4 42 dX12_blows_60 (Nat.le_of_ble_eq_true rfl) rfl (zk_inb_in b8) ?_
      refine zk_callSi zY_X12_givesAt [_] dX12_blows_61 zl_X12_givesAt zc_X12_168 (fMd_givesAt_ok (d := 0) (Nat.le_refl _) m6 _ _ rfl) (Nat.lt_of_lt_of_le (by decide) hd) (Nat.le_of_ble_eq_true rfl) ?_
      refine zk_icmp_lt 71 dX12_blows_64 rfl (fun c13 => ?_) (fun c13 => ?_)
      · have h := zk_it _ h c13
        refine zk_iconst dX12_blows_71 zki_0 ?_
        obtain ⟨b9, h⟩ := zk_gd h
        obtain ⟨m10, em10, h⟩ := zk_lt h
        refine zk_iastore' 4 42 dX12_blows_72 (Nat.le_of_ble_eq_true rfl) rfl (zk_inb_in b9) em10 ?_
        exact zk_vreturn dX12_blows_73 rfl (zk_rVw (Option.some.inj h))
      · have h := zk_if _ h c13
        refine zk_iconst dX12_blows_67 zki_1 ?_
        refine zk_goto 72 dX12_blows_68 rfl ?_
        obtain ⟨b11, h⟩ := zk_gd h
        obtain ⟨m12, em12, h⟩ := zk_lt h
        refine zk_iastore' 4 42 dX12_blows_72 (Nat.le_of_ble_eq_true rfl) rfl (zk_inb_in b11) em12 ?_
        exact zk_vreturn dX12_blows_73 rfl (zk_rVw (Option.some.inj h))
    · have h := zk_it _ h c19
      refine zk_aload_n (i := 0) dX12_blows_14 rfl rfl ?_
      refine zk_iload_n (i := 1) dX12_blows_15 rfl rfl ?_
      refine zk_iconst dX12_blows_16 zki_2 ?_
      refine zk_iadd dX12_blows_17 ?_
      refine zk_iload_n (i := 3) dX12_blows_18 rfl rfl ?_
      refine zk_bipush dX12_blows_19 zkb_6 ?_
      refine zk_icmp_le 28 dX12_blows_21 rfl (fun c18 => ?_) (fun c18 => ?_)
      · have h := zk_it _ h c18
        refine zk_iconst dX12_blows_28 zki_0 ?_
        obtain ⟨b14, h⟩ := zk_gd h
        obtain ⟨m15, em15, h⟩ := zk_lt h
        refine zk_iastore' 4 42 dX12_blows_29 (Nat.le_of_ble_eq_true rfl) rfl (zk_inb_in b14) em15 ?_
        refine zk_goto 73 dX12_blows_30 rfl ?_
        exact zk_vreturn dX12_blows_73 rfl (zk_rVw (Option.some.inj h))
      · have h := zk_if _ h c18
        refine zk_iconst dX12_blows_24 zki_1 ?_
        refine zk_goto 29 dX12_blows_25 rfl ?_
        obtain ⟨b16, h⟩ := zk_gd h
        obtain ⟨m17, em17, h⟩ := zk_lt h
        refine zk_iastore' 4 42 dX12_blows_29 (Nat.le_of_ble_eq_true rfl) rfl (zk_inb_in b16) em17 ?_
        refine zk_goto 73 dX12_blows_30 rfl ?_
        exact zk_vreturn dX12_blows_73 rfl (zk_rVw (Option.some.inj h))
set_option maxRecDepth 100000 in
set_option maxHeartbeats 4000000 in
theorem fMd_blowsAll_4_L3_ok {d : Nat} {Z : zkZ} (hd : 2 ≤ d)  : ∀ (n : Nat) (mem : zkM) (x2 : Int32) (x3 : Int32) (x4 : Int32) (z : zkM), fMd_blowsAll_4_L3 n mem x2 x3 x4 = some z → zk_J zSM d zY_X12_blowsAll Z 37 [none, none, none, none, none] [] z → zk_J zSM d zY_X12_blowsAll Z 3 [some (.ref 0), some (.ref 4), some (.int x2), some (.int x3), some (.int x4)] [] mem := by
  intro n
  induction n with
  | zero => intro mem x2 x3 x4 z h; cases h
  | succ n ih =>
    intro mem x2 x3 x4 z h he
    rw [fMd_blowsAll_4_L3] at h
    refine zk_iload dX12_blowsAll_3 rfl ?_
    refine zk_iconst dX12_blowsAll_5 zki_2 ?_
    refine zk_aload_n (i := 0) dX12_blowsAll_6 rfl rfl ?_
    refine zk_getI 0 12 2 dX12_blowsAll_7 zf_X12_77 (Nat.le_of_ble_eq_true rfl) rfl rfl ?_
    refine zk_imul dX12_blowsAll_10 ?_
    refine zk_icmp_ge 37 dX12_blowsAll_11 rfl (fun c3 => ?_) (fun c3 => ?_)
    · have h := zk_it _ h c3
      cases h
      exact zk_weak (zk_leN (zk_leN (zk_leN (zk_leN (zk_leN zk_leE))))) he
    · have h := zk_if _ h c3
      refine zk_aload_n (i := 1) dX12_blowsAll_14 rfl rfl ?_
      refine zk_iload_n (i := 2) dX12_blowsAll_15 rfl rfl ?_
      refine zk_iconst dX12_blowsAll_16 zki_3 ?_
      refine zk_iload dX12_blowsAll_17 rfl ?_
      refine zk_imul dX12_blowsAll_19 ?_
      refine zk_iadd dX12_blowsAll_20 ?_
      refine zk_aload_n (i := 0) dX12_blowsAll_21 rfl rfl ?_
      refine zk_iload dX12_blowsAll_22 rfl ?_
      obtain ⟨q1, hq1, h⟩ := zk_ob h
      refine zk_callVi zY_X12_differ 0 12 [_] dX12_blowsAll_24 zl_X12_differ zc_X12_171 zk_ok12 (Nat.le_of_ble_eq_true rfl) rfl (fMd_differ_ok (d := 0) (Nat.le_refl _) mem _ _ hq1) (Nat.lt_of_lt_of_le (by decide) hd) (Nat.le_of_ble_eq_true rfl) ?_
      refine zk_iload_n (i := 3) dX12_blowsAll_27 rfl rfl ?_
      obtain ⟨q2, hq2, h⟩ := zk_ob h
      refine zk_callSv zY_X12_blows [_, _, _, _] dX12_blowsAll_28 zl_X12_blows zc_X12_174 (fMd_blows_4_ok (d := 1) (Nat.le_refl _) mem _ _ _ _ hq2) (Nat.lt_of_lt_of_le (by decide) hd) (Nat.le_of_ble_eq_true rfl) ?_
      refine zk_iinc2 dX12_blowsAll_31 rfl zki_1 (Nat.le_of_ble_eq_true rfl) rfl ?_
      refine zk_goto 3 dX12_blowsAll_34 rfl ?_
      exact zk_weak (zk_leS (zk_leS (zk_leS (zk_leS (zk_leS zk_leE))))) (ih q2 x2 x3 (x4 + (1 : Int32)) _ h he)
set_option maxRecDepth 100000 in
set_option maxHeartbeats 4000000 in
theorem fMd_blowsAll_4_ok {d : Nat} (hd : 2 ≤ d) (mem : zkM) (a2 : Int32) (a3 : Int32) (z : zkM) (h : fMd_blowsAll_4 mem a2 a3 = some z) : zk_X zSM d zY_X12_blowsAll [.ref 0, .ref 4, .int a2, .int a3] mem (none, z) := by
  unfold fMd_blowsAll_4 at h
  refine zk_meet (n := 1) (lv := [some (.ref 0), some (.ref 4), some (.int a2), some (.int a3), none]) zpn_X12 rfl (Nat.le_of_ble_eq_true rfl) ?_
  refine zk_iconst dX12_blowsAll_0 zki_0 ?_
  refine zk_istore dX12_blowsAll_1 (Nat.le_of_ble_eq_true rfl) rfl ?_
  obtain ⟨q1, hq1, h⟩ := zk_ob h
  refine zk_weak (zk_leS (zk_leS (zk_leS (zk_leS (zk_leS zk_leE))))) (fMd_blowsAll_4_L3_ok hd 500 mem a2 a3 (0 : Int32) _ hq1 ?_)
  exact zk_vreturn dX12_blowsAll_37 rfl (zk_rVw (Option.some.inj h))
set_option maxRecDepth 100000 in
set_option maxHeartbeats 4000000 in
theorem fMd_outs_4_L5_ok {d : Nat} {Z : zkZ} (hd : 0 ≤ d)  : ∀ (n : Nat) (mem : zkM) (x2 : Int32) (x3 : Int32) (x4 : Int32) (z : Int32), fMd_outs_4_L5 n mem x2 x3 x4 = some z → zk_J zSM d zY_X12_outs Z 35 [none, none, none, some (.int z), none] [] mem → zk_J zSM d zY_X12_outs Z 5 [some (.ref 0), some (.ref 4), some (.int x2), some (.int x3), some (.int x4)] [] mem := by
  intro n
  induction n with
  | zero => intro mem x2 x3 x4 z h; cases h
  | succ n ih =>
    intro mem x2 x3 x4 z h he
    rw [fMd_outs_4_L5] at h
    refine zk_iload dX12_outs_5 rfl ?_
    refine zk_iconst dX12_outs_7 zki_2 ?_
    refine zk_aload_n (i := 0) dX12_outs_8 rfl rfl ?_
    refine zk_getI 0 12 2 dX12_outs_9 zf_X12_77 (Nat.le_of_ble_eq_true rfl) rfl rfl ?_
    refine zk_imul dX12_outs_12 ?_
    refine zk_icmp_ge 35 dX12_outs_13 rfl (fun c3 => ?_) (fun c3 => ?_)
    · have h := zk_it _ h c3
      cases h
      exact zk_weak (zk_leN (zk_leN (zk_leN (zk_leS (zk_leN zk_leE))))) he
    · have h := zk_if _ h c3
      refine zk_iload_n (i := 3) dX12_outs_16 rfl rfl ?_
      refine zk_aload_n (i := 1) dX12_outs_17 rfl rfl ?_
      refine zk_iload_n (i := 2) dX12_outs_18 rfl rfl ?_
      refine zk_iconst dX12_outs_19 zki_3 ?_
      refine zk_iload dX12_outs_20 rfl ?_
      refine zk_imul dX12_outs_22 ?_
      refine zk_iadd dX12_outs_23 ?_
      refine zk_iconst dX12_outs_24 zki_2 ?_
      refine zk_iadd dX12_outs_25 ?_
      obtain ⟨b1, h⟩ := zk_gd h
      refine zk_iaload 4 42 dX12_outs_26 (Nat.le_of_ble_eq_true rfl) rfl (zk_inb_in b1) ?_
      refine zk_iadd dX12_outs_27 ?_
      obtain ⟨v2, ev2, h⟩ := zk_lt h
      refine zk_istore_n' (i := 3) dX12_outs_28 rfl ev2 (Nat.le_of_ble_eq_true rfl) rfl ?_
      refine zk_iinc2 dX12_outs_29 rfl zki_1 (Nat.le_of_ble_eq_true rfl) rfl ?_
      refine zk_goto 5 dX12_outs_32 rfl ?_
      exact zk_weak (zk_leS (zk_leS (zk_leS (zk_leS (zk_leS zk_leE))))) (ih mem x2 v2 (x4 + (1 : Int32)) _ h he)
set_option maxRecDepth 100000 in
set_option maxHeartbeats 4000000 in
theorem fMd_outs_4_ok {d : Nat} (hd : 0 ≤ d) (mem : zkM) (a2 : Int32) (z : Int32) (h : fMd_outs_4 mem a2 = some z) : zk_X zSM d zY_X12_outs [.ref 0, .ref 4, .int a2] mem (some (.int z), mem) := by
  unfold fMd_outs_4 at h
  refine zk_meet (n := 2) (lv := [some (.ref 0), some (.ref 4), some (.int a2), none, none]) zpn_X12 rfl (Nat.le_of_ble_eq_true rfl) ?_
  refine zk_iconst dX12_outs_0 zki_0 ?_
  refine zk_istore_n (i := 3) dX12_outs_1 rfl (Nat.le_of_ble_eq_true rfl) rfl ?_
  refine zk_iconst dX12_outs_2 zki_0 ?_
  refine zk_istore dX12_outs_3 (Nat.le_of_ble_eq_true rfl) rfl ?_
  obtain ⟨q1, hq1, h⟩ := zk_ob h
  refine zk_weak (zk_leS (zk_leS (zk_leS (zk_leS (zk_leS zk_leE))))) (fMd_outs_4_L5_ok hd 500 mem a2 (0 : Int32) (0 : Int32) _ hq1 ?_)
  refine zk_iload_n (i := 3) dX12_outs_35 rfl rfl ?_
  exact zk_ireturn dX12_outs_36 rfl (zk_rI (Option.some.inj h))
set_option maxRecDepth 100000 in
set_option maxHeartbeats 4000000 in
theorem fMd_gale_ok {d : Nat} (hd : 3 ≤ d) (mem : zkM) (a1 : Int32) (z : Int32 × zkM) (h : fMd_gale mem a1 = some z) : zk_X zSM d zY_X12_gale [.ref 0, .int a1] mem (some (.int z.1), z.2) := by
  unfold fMd_gale at h
  refine zk_meet (n := 0) (lv := [some (.ref 0), some (.int a1)]) zpn_X12 rfl (Nat.le_of_ble_eq_true rfl) ?_
  refine zk_iload_n (i := 1) dX12_gale_0 rfl rfl ?_
  refine zk_callSi zY_X12_isForce [_] dX12_gale_1 zl_X12_isForce zc_X12_205 (fMd_isForce_ok (d := 1) (Nat.le_refl _) mem _ _ rfl) (Nat.lt_of_lt_of_le (by decide) hd) (Nat.le_of_ble_eq_true rfl) ?_
  refine zk_if_ne 9 dX12_gale_4 rfl (fun c6 => ?_) (fun c6 => ?_)
  · have h := zk_if _ h c6
    refine zk_aload_n (i := 0) dX12_gale_9 rfl rfl ?_
    refine zk_getR 0 12 6 dX12_gale_10 zf_X12_19 (Nat.le_of_ble_eq_true rfl) rfl rfl ?_
    refine zk_iconst dX12_gale_13 zki_0 ?_
    refine zk_iaload 4 42 dX12_gale_14 (Nat.le_of_ble_eq_true rfl) rfl (zk_inb_in (by decide)) ?_
    refine zk_sipush dX12_gale_15 zks_999 ?_
    refine zk_icmp_ne 24 dX12_gale_18 rfl (fun c5 => ?_) (fun c5 => ?_)
    · have h := zk_if _ h c5
      refine zk_aload_n (i := 0) dX12_gale_24 rfl rfl ?_
      obtain ⟨q1, hq1, h⟩ := zk_ob h
      refine zk_callVv zY_X12_remembers 0 12 [] dX12_gale_25 zl_X12_remembers zc_X12_202 zk_ok12 (Nat.le_of_ble_eq_true rfl) rfl (fMd_remembers_ok (d := 0) (Nat.le_refl _) mem  _ hq1) (Nat.lt_of_lt_of_le (by decide) hd) (Nat.le_of_ble_eq_true rfl) ?_
      refine zk_aload_n (i := 0) dX12_gale_28 rfl rfl ?_
      refine zk_aload_n (i := 0) dX12_gale_29 rfl rfl ?_
      refine zk_getR 0 12 6 dX12_gale_30 zf_X12_19 (Nat.le_of_ble_eq_true rfl) rfl rfl ?_
      refine zk_bipush dX12_gale_33 zkb_6 ?_
      refine zk_iload_n (i := 1) dX12_gale_35 rfl rfl ?_
      obtain ⟨q2, hq2, h⟩ := zk_ob h
      refine zk_callVv zY_X12_blowsAll 0 12 [_, _, _] dX12_gale_36 zl_X12_blowsAll zc_X12_208 zk_ok12 (Nat.le_of_ble_eq_true rfl) rfl (fMd_blowsAll_4_ok (d := 2) (Nat.le_refl _) q1 _ _ _ hq2) (Nat.lt_of_lt_of_le (by decide) hd) (Nat.le_of_ble_eq_true rfl) ?_
      refine zk_aload_n (i := 0) dX12_gale_39 rfl rfl ?_
      refine zk_getR 0 12 6 dX12_gale_40 zf_X12_19 (Nat.le_of_ble_eq_true rfl) rfl rfl ?_
      refine zk_iconst dX12_gale_43 zki_0 ?_
      refine zk_dup2 dX12_gale_44 rfl rfl ?_
      refine zk_iaload 4 42 dX12_gale_45 (Nat.le_of_ble_eq_true rfl) rfl (zk_inb_in (by decide)) ?_
      refine zk_iconst dX12_gale_46 zki_1 ?_
      refine zk_iadd dX12_gale_47 ?_
      obtain ⟨m3, em3, h⟩ := zk_lt h
      refine zk_iastore' 4 42 dX12_gale_48 (Nat.le_of_ble_eq_true rfl) rfl (zk_inb_in (by decide)) em3 ?_
      refine zk_aload_n (i := 0) dX12_gale_49 rfl rfl ?_
      refine zk_aload_n (i := 0) dX12_gale_50 rfl rfl ?_
      refine zk_getR 0 12 6 dX12_gale_51 zf_X12_19 (Nat.le_of_ble_eq_true rfl) rfl rfl ?_
      refine zk_bipush dX12_gale_54 zkb_6 ?_
      obtain ⟨q4, hq4, h⟩ := zk_ob h
      refine zk_callVi zY_X12_outs 0 12 [_, _] dX12_gale_56 zl_X12_outs zc_X12_212 zk_ok12 (Nat.le_of_ble_eq_true rfl) rfl (fMd_outs_4_ok (d := 0) (Nat.le_refl _) m3 _ _ hq4) (Nat.lt_of_lt_of_le (by decide) hd) (Nat.le_of_ble_eq_true rfl) ?_
      exact zk_ireturn dX12_gale_59 rfl (zk_rIw (Option.some.inj h))
    · have h := zk_it _ h c5
      refine zk_bipush dX12_gale_21 zkb_m2 ?_
      exact zk_ireturn dX12_gale_23 rfl (zk_rIw (Option.some.inj h))
  · have h := zk_it _ h c6
    refine zk_iconst dX12_gale_7 zki_m1 ?_
    exact zk_ireturn dX12_gale_8 rfl (zk_rIw (Option.some.inj h))
set_option maxRecDepth 100000 in
set_option maxHeartbeats 4000000 in
theorem fMd_join_ok {d : Nat} (hd : 2 ≤ d) (mem : zkM) (a1 : Int32) (a2 : Int32) (a3 : Int32) (z : Int32 × zkM) (h : fMd_join mem a1 a2 a3 = some z) : zk_X zSM d zY_X12_join [.ref 0, .int a1, .int a2, .int a3] mem (some (.int z.1), z.2) := by
  unfold fMd_join at h
  refine zk_meet (n := 2) (lv := [some (.ref 0), some (.int a1), some (.int a2), some (.int a3), none, none]) zpn_X12 rfl (Nat.le_of_ble_eq_true rfl) ?_
  refine zk_aload_n (i := 0) dX12_join_0 rfl rfl ?_
  refine zk_iload_n (i := 1) dX12_join_1 rfl rfl ?_
  refine zk_callVi zY_X12_isPlank 0 12 [_] dX12_join_2 zl_X12_isPlank zc_X12_185 zk_ok12 (Nat.le_of_ble_eq_true rfl) rfl (fMd_isPlank_ok (d := 1) (Nat.le_refl _) mem _ _ rfl) (Nat.lt_of_lt_of_le (by decide) hd) (Nat.le_of_ble_eq_true rfl) ?_
  refine zk_if_eq 26 dX12_join_5 rfl (fun c13 => ?_) (fun c13 => ?_)
  · have h := zk_it _ h c13
    refine zk_iconst dX12_join_26 zki_m1 ?_
    exact zk_ireturn dX12_join_27 rfl (zk_rIw (Option.some.inj h))
  · have h := zk_if _ h c13
    refine zk_iload_n (i := 2) dX12_join_8 rfl rfl ?_
    refine zk_iconst dX12_join_9 zki_0 ?_
    refine zk_iconst dX12_join_10 zki_1 ?_
    refine zk_callSi zY_X12_in [_, _, _] dX12_join_11 zl_X12_in zc_X12_73 (fMd_in_ok (d := 0) (Nat.le_refl _) mem _ _ _ _ rfl) (Nat.lt_of_lt_of_le (by decide) hd) (Nat.le_of_ble_eq_true rfl) ?_
    refine zk_if_eq 26 dX12_join_14 rfl (fun c12 => ?_) (fun c12 => ?_)
    · have h := zk_it _ h c12
      refine zk_iconst dX12_join_26 zki_m1 ?_
      exact zk_ireturn dX12_join_27 rfl (zk_rIw (Option.some.inj h))
    · have h := zk_if _ h c12
      refine zk_iload_n (i := 3) dX12_join_17 rfl rfl ?_
      refine zk_iconst dX12_join_18 zki_0 ?_
      refine zk_iconst dX12_join_19 zki_3 ?_
      refine zk_callSi zY_X12_in [_, _, _] dX12_join_20 zl_X12_in zc_X12_73 (fMd_in_ok (d := 0) (Nat.le_refl _) mem _ _ _ _ rfl) (Nat.lt_of_lt_of_le (by decide) hd) (Nat.le_of_ble_eq_true rfl) ?_
      refine zk_if_ne 28 dX12_join_23 rfl (fun c11 => ?_) (fun c11 => ?_)
      · have h := zk_if _ h c11
        refine zk_aload_n (i := 0) dX12_join_28 rfl rfl ?_
        obtain ⟨q1, hq1, h⟩ := zk_ob h
        refine zk_callVv zY_X12_remembers 0 12 [] dX12_join_29 zl_X12_remembers zc_X12_202 zk_ok12 (Nat.le_of_ble_eq_true rfl) rfl (fMd_remembers_ok (d := 0) (Nat.le_refl _) mem  _ hq1) (Nat.lt_of_lt_of_le (by decide) hd) (Nat.le_of_ble_eq_true rfl) ?_
        refine zk_iload_n (i := 1) dX12_join_32 rfl rfl ?_
        refine zk_iload_n (i := 2) dX12_join_33 rfl rfl ?_
        refine zk_callSi zY_X12_endAt [_, _] dX12_join_34 zl_X12_endAt zc_X12_188 (fMd_endAt_ok (d := 0) (Nat.le_refl _) q1 _ _ _ rfl) (Nat.lt_of_lt_of_le (by decide) hd) (Nat.le_of_ble_eq_true rfl) ?_
        obtain ⟨v2, ev2, h⟩ := zk_lt h
        refine zk_istore' dX12_join_37 ev2 (Nat.le_of_ble_eq_true rfl) rfl ?_
        refine zk_aload_n (i := 0) dX12_join_39 rfl rfl ?_
        refine zk_getR 0 12 6 dX12_join_40 zf_X12_19 (Nat.le_of_ble_eq_true rfl) rfl rfl ?_
        refine zk_iload dX12_join_43 rfl ?_
        obtain ⟨b3, h⟩ := zk_gd h
        refine zk_iaload 4 42 dX12_join_45 (Nat.le_of_ble_eq_true rfl) rfl (zk_inb_in b3) ?_
        obtain ⟨v4, ev4, h⟩ := zk_lt h
        refine zk_istore' dX12_join_46 ev4 (Nat.le_of_ble_eq_true rfl) rfl ?_
        refine zk_aload_n (i := 0) dX12_join_48 rfl rfl ?_
        refine zk_getR 0 12 6 dX12_join_49 zf_X12_19 (Nat.le_of_ble_eq_true rfl) rfl rfl ?_
        refine zk_iload dX12_join_52 rfl ?_
        refine zk_iload_n (i := 3) dX12_join_54 rfl rfl ?_
        obtain ⟨b5, h⟩ := zk_gd h
        obtain ⟨m6, em6, h⟩ := zk_lt h
        refine zk_iastore' 4 42 dX12_join_55 (Nat.le_of_ble_eq_true rfl) rfl (zk_inb_in b5) em6 ?_
        refine zk_aload_n (i := 0) dX12_join_56 rfl rfl ?_
        refine zk_getR 0 12 6 dX12_join_57 zf_X12_19 (Nat.le_of_ble_eq_true rfl) rfl rfl ?_
        refine zk_iload dX12_join_60 rfl ?_
        refine zk_iconst dX12_join_62 zki_1 ?_
        refine zk_iadd dX12_join_63 ?_
        refine zk_iconst dX12_join_64 zki_0 ?_
        obtain ⟨b7, h⟩ := zk_gd h
        obtain ⟨m8, em8, h⟩ := zk_lt h
        refine zk_iastore' 4 42 dX12_join_65 (Nat.le_of_ble_eq_true rfl) rfl (zk_inb_in b7) em8 ?_
        refine zk_aload_n (i := 0) dX12_join_66 rfl rfl ?_
        refine zk_getR 0 12 6 dX12_join_67 zf_X12_19 (Nat.le_of_ble_eq_true rfl) rfl rfl ?_
        refine zk_iload dX12_join_70 rfl ?_
        refine zk_iconst dX12_join_72 zki_2 ?_
        refine zk_iadd dX12_join_73 ?_
        refine zk_iconst dX12_join_74 zki_0 ?_
        obtain ⟨b9, h⟩ := zk_gd h
        obtain ⟨m10, em10, h⟩ := zk_lt h
        refine zk_iastore' 4 42 dX12_join_75 (Nat.le_of_ble_eq_true rfl) rfl (zk_inb_in b9) em10 ?_
        refine zk_iload dX12_join_76 rfl ?_
        exact zk_ireturn dX12_join_78 rfl (zk_rIw (Option.some.inj h))
      · have h := zk_it _ h c11
        refine zk_iconst dX12_join_26 zki_m1 ?_
        exact zk_ireturn dX12_join_27 rfl (zk_rIw (Option.some.inj h))
set_option maxRecDepth 100000 in
set_option maxHeartbeats 4000000 in
theorem fMd_spring_L8_ok {d : Nat} {Z : zkZ} (hd : 1 ≤ d)  : ∀ (n : Nat) (mem : zkM) (x1 : Int32) (x2 : Int32) (z : Int32 × zkM), fMd_spring_L8 n mem x1 x2 = some z → zk_J zSM d zY_X12_spring Z 100 [none, some (.int z.1), none, none] [] z.2 → zk_J zSM d zY_X12_spring Z 8 [some (.ref 0), some (.int x1), some (.int x2), none] [] mem := by
  intro n
  induction n with
  | zero => intro mem x1 x2 z h; cases h
  | succ n ih =>
    intro mem x1 x2 z h he
    rw [fMd_spring_L8] at h
    refine zk_iload_n (i := 2) dX12_spring_8 rfl rfl ?_
    refine zk_iconst dX12_spring_9 zki_2 ?_
    refine zk_aload_n (i := 0) dX12_spring_10 rfl rfl ?_
    refine zk_getI 0 12 2 dX12_spring_11 zf_X12_77 (Nat.le_of_ble_eq_true rfl) rfl rfl ?_
    refine zk_imul dX12_spring_14 ?_
    refine zk_icmp_ge 100 dX12_spring_15 rfl (fun c16 => ?_) (fun c16 => ?_)
    · have h := zk_it _ h c16
      cases h
      exact zk_weak (zk_leN (zk_leS (zk_leN (zk_leN zk_leE)))) he
    · have h := zk_if _ h c16
      refine zk_bipush dX12_spring_18 zkb_6 ?_
      refine zk_iconst dX12_spring_20 zki_3 ?_
      refine zk_iload_n (i := 2) dX12_spring_21 rfl rfl ?_
      refine zk_imul dX12_spring_22 ?_
      refine zk_iadd dX12_spring_23 ?_
      obtain ⟨v1, ev1, h⟩ := zk_lt h
      refine zk_istore_n' (i := 3) dX12_spring_24 rfl ev1 (Nat.le_of_ble_eq_true rfl) rfl ?_
      refine zk_aload_n (i := 0) dX12_spring_25 rfl rfl ?_
      refine zk_getR 0 12 6 dX12_spring_26 zf_X12_19 (Nat.le_of_ble_eq_true rfl) rfl rfl ?_
      refine zk_iload_n (i := 3) dX12_spring_29 rfl rfl ?_
      obtain ⟨b2, h⟩ := zk_gd h
      refine zk_iaload 4 42 dX12_spring_30 (Nat.le_of_ble_eq_true rfl) rfl (zk_inb_in b2) ?_
      refine zk_iconst dX12_spring_31 zki_1 ?_
      obtain ⟨q3, hq3, h⟩ := zk_ob h
      have Jq3 : zk_J zSM d zY_X12_spring Z 94 [some (.ref 0), some (.int q3.1), some (.int x2), none] [] q3.2 := by
        refine zk_iinc2 dX12_spring_94 rfl zki_1 (Nat.le_of_ble_eq_true rfl) rfl ?_
        refine zk_goto 8 dX12_spring_97 rfl ?_
        exact zk_weak (zk_leS (zk_leS (zk_leS (zk_leN zk_leE)))) (ih q3.2 q3.1 (x2 + (1 : Int32)) _ h he)
      have h := hq3
      clear hq3
      refine zk_icmp_ne 94 dX12_spring_32 rfl (fun c15 => ?_) (fun c15 => ?_)
      · have h := zk_if _ h c15
        cases h
        exact zk_weak (zk_leS (zk_leS (zk_leS (zk_leN zk_leE)))) Jq3
      · have h := zk_it _ h c15
        refine zk_aload_n (i := 0) dX12_spring_35 rfl rfl ?_
        refine zk_getR 0 12 6 dX12_spring_36 zf_X12_19 (Nat.le_of_ble_eq_true rfl) rfl rfl ?_
        refine zk_iload_n (i := 3) dX12_spring_39 rfl rfl ?_
        refine zk_iconst dX12_spring_40 zki_2 ?_
        refine zk_iadd dX12_spring_41 ?_
        obtain ⟨b4, h⟩ := zk_gd h
        refine zk_iaload 4 42 dX12_spring_42 (Nat.le_of_ble_eq_true rfl) rfl (zk_inb_in b4) ?_
        refine zk_if_ne 94 dX12_spring_43 rfl (fun c14 => ?_) (fun c14 => ?_)
        · have h := zk_if _ h c14
          cases h
          exact zk_weak (zk_leS (zk_leS (zk_leS (zk_leN zk_leE)))) Jq3
        · have h := zk_it _ h c14
          refine zk_aload_n (i := 0) dX12_spring_46 rfl rfl ?_
          refine zk_getR 0 12 6 dX12_spring_47 zf_X12_19 (Nat.le_of_ble_eq_true rfl) rfl rfl ?_
          refine zk_iload_n (i := 3) dX12_spring_50 rfl rfl ?_
          refine zk_iconst dX12_spring_51 zki_1 ?_
          refine zk_iadd dX12_spring_52 ?_
          obtain ⟨b5, h⟩ := zk_gd h
          refine zk_iaload 4 42 dX12_spring_53 (Nat.le_of_ble_eq_true rfl) rfl (zk_inb_in b5) ?_
          refine zk_if_le 94 dX12_spring_54 rfl (fun c13 => ?_) (fun c13 => ?_)
          · have h := zk_it _ h c13
            cases h
            exact zk_weak (zk_leS (zk_leS (zk_leS (zk_leN zk_leE)))) Jq3
          · have h := zk_if _ h c13
            refine zk_aload_n (i := 0) dX12_spring_57 rfl rfl ?_
            refine zk_getR 0 12 6 dX12_spring_58 zf_X12_19 (Nat.le_of_ble_eq_true rfl) rfl rfl ?_
            refine zk_iload_n (i := 3) dX12_spring_61 rfl rfl ?_
            refine zk_iconst dX12_spring_62 zki_1 ?_
            refine zk_iadd dX12_spring_63 ?_
            refine zk_aload_n (i := 0) dX12_spring_64 rfl rfl ?_
            refine zk_getR 0 12 6 dX12_spring_65 zf_X12_19 (Nat.le_of_ble_eq_true rfl) rfl rfl ?_
            refine zk_iload_n (i := 3) dX12_spring_68 rfl rfl ?_
            refine zk_iconst dX12_spring_69 zki_1 ?_
            refine zk_iadd dX12_spring_70 ?_
            obtain ⟨b6, h⟩ := zk_gd h
            refine zk_iaload 4 42 dX12_spring_71 (Nat.le_of_ble_eq_true rfl) rfl (zk_inb_in b6) ?_
            refine zk_iconst dX12_spring_72 zki_2 ?_
            refine zk_icmp_le 89 dX12_spring_73 rfl (fun c12 => ?_) (fun c12 => ?_)
            · have h := zk_it _ h c12
              refine zk_iconst dX12_spring_89 zki_0 ?_
              obtain ⟨b7, h⟩ := zk_gd h
              obtain ⟨m8, em8, h⟩ := zk_lt h
              refine zk_iastore' 4 42 dX12_spring_90 (Nat.le_of_ble_eq_true rfl) rfl (zk_inb_in b7) em8 ?_
              refine zk_iinc2 dX12_spring_91 rfl zki_1 (Nat.le_of_ble_eq_true rfl) rfl ?_
              cases h
              exact zk_weak (zk_leS (zk_leS (zk_leS (zk_leN zk_leE)))) Jq3
            · have h := zk_if _ h c12
              refine zk_aload_n (i := 0) dX12_spring_76 rfl rfl ?_
              refine zk_getR 0 12 6 dX12_spring_77 zf_X12_19 (Nat.le_of_ble_eq_true rfl) rfl rfl ?_
              refine zk_iload_n (i := 3) dX12_spring_80 rfl rfl ?_
              refine zk_iconst dX12_spring_81 zki_1 ?_
              refine zk_iadd dX12_spring_82 ?_
              obtain ⟨b9, h⟩ := zk_gd h
              refine zk_iaload 4 42 dX12_spring_83 (Nat.le_of_ble_eq_true rfl) rfl (zk_inb_in b9) ?_
              refine zk_iconst dX12_spring_84 zki_2 ?_
              refine zk_isub dX12_spring_85 ?_
              refine zk_goto 90 dX12_spring_86 rfl ?_
              obtain ⟨b10, h⟩ := zk_gd h
              obtain ⟨m11, em11, h⟩ := zk_lt h
              refine zk_iastore' 4 42 dX12_spring_90 (Nat.le_of_ble_eq_true rfl) rfl (zk_inb_in b10) em11 ?_
              refine zk_iinc2 dX12_spring_91 rfl zki_1 (Nat.le_of_ble_eq_true rfl) rfl ?_
              cases h
              exact zk_weak (zk_leS (zk_leS (zk_leS (zk_leN zk_leE)))) Jq3
set_option maxRecDepth 100000 in
set_option maxHeartbeats 4000000 in
theorem fMd_spring_ok {d : Nat} (hd : 1 ≤ d) (mem : zkM) (z : Int32 × zkM) (h : fMd_spring mem = some z) : zk_X zSM d zY_X12_spring [.ref 0] mem (some (.int z.1), z.2) := by
  unfold fMd_spring at h
  refine zk_meet (n := 3) (lv := [some (.ref 0), none, none, none]) zpn_X12 rfl (Nat.le_of_ble_eq_true rfl) ?_
  refine zk_aload_n (i := 0) dX12_spring_0 rfl rfl ?_
  obtain ⟨q1, hq1, h⟩ := zk_ob h
  refine zk_callVv zY_X12_remembers 0 12 [] dX12_spring_1 zl_X12_remembers zc_X12_202 zk_ok12 (Nat.le_of_ble_eq_true rfl) rfl (fMd_remembers_ok (d := 0) (Nat.le_refl _) mem  _ hq1) (Nat.lt_of_lt_of_le (by decide) hd) (Nat.le_of_ble_eq_true rfl) ?_
  refine zk_iconst dX12_spring_4 zki_0 ?_
  refine zk_istore_n (i := 1) dX12_spring_5 rfl (Nat.le_of_ble_eq_true rfl) rfl ?_
  refine zk_iconst dX12_spring_6 zki_0 ?_
  refine zk_istore_n (i := 2) dX12_spring_7 rfl (Nat.le_of_ble_eq_true rfl) rfl ?_
  obtain ⟨q2, hq2, h⟩ := zk_ob h
  refine zk_weak (zk_leS (zk_leS (zk_leS (zk_leN zk_leE)))) (fMd_spring_L8_ok hd 500 q1 (0 : Int32) (0 : Int32) _ hq2 ?_)
  refine zk_iload_n (i := 1) dX12_spring_100 rfl rfl ?_
  exact zk_ireturn dX12_spring_101 rfl (zk_rIw (Option.some.inj h))
set_option maxRecDepth 100000 in
set_option maxHeartbeats 4000000 in
theorem fMd_undo_L22_ok {d : Nat} {Z : zkZ} (hd : 0 ≤ d)  : ∀ (n : Nat) (mem : zkM) (x1 : Int32) (z : zkM), fMd_undo_L22 n mem x1 = some z → zk_J zSM d zY_X12_undo Z 54 [some (.ref 0), none] [] z → zk_J zSM d zY_X12_undo Z 22 [some (.ref 0), some (.int x1)] [] mem := by
  intro n
  induction n with
  | zero => intro mem x1 z h; cases h
  | succ n ih =>
    intro mem x1 z h he
    rw [fMd_undo_L22] at h
    refine zk_iload_n (i := 1) dX12_undo_22 rfl rfl ?_
    refine zk_bipush dX12_undo_23 zkb_42 ?_
    refine zk_icmp_ge 54 dX12_undo_25 rfl (fun c4 => ?_) (fun c4 => ?_)
    · have h := zk_it _ h c4
      cases h
      exact zk_weak (zk_leS (zk_leN zk_leE)) he
    · have h := zk_if _ h c4
      refine zk_aload_n (i := 0) dX12_undo_28 rfl rfl ?_
      refine zk_getR 0 12 6 dX12_undo_29 zf_X12_19 (Nat.le_of_ble_eq_true rfl) rfl rfl ?_
      refine zk_iload_n (i := 1) dX12_undo_32 rfl rfl ?_
      refine zk_aload_n (i := 0) dX12_undo_33 rfl rfl ?_
      refine zk_getR 0 12 7 dX12_undo_34 zf_X12_22 (Nat.le_of_ble_eq_true rfl) rfl rfl ?_
      refine zk_bipush dX12_undo_37 zkb_42 ?_
      refine zk_aload_n (i := 0) dX12_undo_39 rfl rfl ?_
      refine zk_getI 0 12 8 dX12_undo_40 zf_X12_142 (Nat.le_of_ble_eq_true rfl) rfl rfl ?_
      refine zk_imul dX12_undo_43 ?_
      refine zk_iload_n (i := 1) dX12_undo_44 rfl rfl ?_
      refine zk_iadd dX12_undo_45 ?_
      obtain ⟨b1, h⟩ := zk_gd h
      refine zk_iaload 5 420 dX12_undo_46 (Nat.le_of_ble_eq_true rfl) rfl (zk_inb_in b1) ?_
      obtain ⟨b2, h⟩ := zk_gd h
      obtain ⟨m3, em3, h⟩ := zk_lt h
      refine zk_iastore' 4 42 dX12_undo_47 (Nat.le_of_ble_eq_true rfl) rfl (zk_inb_in b2) em3 ?_
      refine zk_iinc2 dX12_undo_48 rfl zki_1 (Nat.le_of_ble_eq_true rfl) rfl ?_
      refine zk_goto 22 dX12_undo_51 rfl ?_
      exact zk_weak (zk_leS (zk_leS zk_leE)) (ih m3 (x1 + (1 : Int32)) _ h he)
set_option maxRecDepth 100000 in
set_option maxHeartbeats 4000000 in
theorem fMd_undo_ok {d : Nat} (hd : 0 ≤ d) (mem : zkM) (z : Int32 × zkM) (h : fMd_undo mem = some z) : zk_X zSM d zY_X12_undo [.ref 0] mem (some (.int z.1), z.2) := by
  unfold fMd_undo at h
  refine zk_meet (n := 1) (lv := [some (.ref 0), none]) zpn_X12 rfl (Nat.le_of_ble_eq_true rfl) ?_
  refine zk_aload_n (i := 0) dX12_undo_0 rfl rfl ?_
  refine zk_getI 0 12 8 dX12_undo_1 zf_X12_142 (Nat.le_of_ble_eq_true rfl) rfl rfl ?_
  refine zk_if_ne 10 dX12_undo_4 rfl (fun c3 => ?_) (fun c3 => ?_)
  · have h := zk_if _ h c3
    refine zk_aload_n (i := 0) dX12_undo_10 rfl rfl ?_
    refine zk_dup dX12_undo_11 rfl ?_
    refine zk_getI 0 12 8 dX12_undo_12 zf_X12_142 (Nat.le_of_ble_eq_true rfl) rfl rfl ?_
    refine zk_iconst dX12_undo_15 zki_1 ?_
    refine zk_isub dX12_undo_16 ?_
    obtain ⟨m1, em1, h⟩ := zk_lt h
    refine zk_putI' 0 12 8 dX12_undo_17 zp_X12_142 (Nat.le_of_ble_eq_true rfl) rfl rfl em1 ?_
    refine zk_iconst dX12_undo_20 zki_0 ?_
    refine zk_istore_n (i := 1) dX12_undo_21 rfl (Nat.le_of_ble_eq_true rfl) rfl ?_
    obtain ⟨q2, hq2, h⟩ := zk_ob h
    refine zk_weak (zk_leS (zk_leS zk_leE)) (fMd_undo_L22_ok hd 500 m1 (0 : Int32) _ hq2 ?_)
    refine zk_aload_n (i := 0) dX12_undo_54 rfl rfl ?_
    refine zk_getI 0 12 8 dX12_undo_55 zf_X12_142 (Nat.le_of_ble_eq_true rfl) rfl rfl ?_
    exact zk_ireturn dX12_undo_58 rfl (zk_rIw (Option.some.inj h))
  · have h := zk_it _ h c3
    refine zk_bipush dX12_undo_7 zkb_m2 ?_
    exact zk_ireturn dX12_undo_9 rfl (zk_rIw (Option.some.inj h))
set_option maxRecDepth 100000 in
set_option maxHeartbeats 4000000 in
theorem fMd_lays_L9_ok {d : Nat} {Z : zkZ} (hd : 1 ≤ d)  : ∀ (n : Nat) (mem : zkM) (x2 : Int32) (x3 : Int32) (z : zkM), fMd_lays_L9 n mem x2 x3 = some z → zk_J zSM d zY_X12_lays Z 60 [some (.ref 0), none, none, none, none] [] z → zk_J zSM d zY_X12_lays Z 9 [some (.ref 0), none, some (.int x2), some (.int x3), none] [] mem := by
  intro n
  induction n with
  | zero => intro mem x2 x3 z h; cases h
  | succ n ih =>
    intro mem x2 x3 z h he
    rw [fMd_lays_L9] at h
    refine zk_iload_n (i := 3) dX12_lays_9 rfl rfl ?_
    refine zk_if_lt 60 dX12_lays_10 rfl (fun c9 => ?_) (fun c9 => ?_)
    · have h := zk_it _ h c9
      cases h
      exact zk_weak (zk_leS (zk_leN (zk_leN (zk_leN (zk_leN zk_leE))))) he
    · have h := zk_if _ h c9
      refine zk_iload_n (i := 2) dX12_lays_13 rfl rfl ?_
      refine zk_aload_n (i := 0) dX12_lays_14 rfl rfl ?_
      refine zk_getI 0 12 2 dX12_lays_15 zf_X12_77 (Nat.le_of_ble_eq_true rfl) rfl rfl ?_
      refine zk_iconst dX12_lays_18 zki_1 ?_
      refine zk_iadd dX12_lays_19 ?_
      obtain ⟨b1, h⟩ := zk_dz h
      refine zk_irem dX12_lays_20 b1 ?_
      obtain ⟨v2, ev2, h⟩ := zk_lt h
      refine zk_istore' dX12_lays_21 ev2 (Nat.le_of_ble_eq_true rfl) rfl ?_
      refine zk_aload_n (i := 0) dX12_lays_23 rfl rfl ?_
      refine zk_getR 0 12 27 dX12_lays_24 zf_X12_47 (Nat.le_of_ble_eq_true rfl) rfl rfl ?_
      refine zk_iload_n (i := 3) dX12_lays_27 rfl rfl ?_
      refine zk_iload dX12_lays_28 rfl ?_
      refine zk_aload_n (i := 0) dX12_lays_30 rfl rfl ?_
      refine zk_getI 0 12 2 dX12_lays_31 zf_X12_77 (Nat.le_of_ble_eq_true rfl) rfl rfl ?_
      obtain ⟨q3, hq3, h⟩ := zk_lt h
      have Jq3 : zk_J zSM d zY_X12_lays Z 44 [some (.ref 0), none, some (.int x2), some (.int x3), none] [.int q3, .int x3, .ref 13] mem := by
        obtain ⟨b5, h⟩ := zk_gd h
        obtain ⟨m6, em6, h⟩ := zk_lt h
        refine zk_iastore' 13 5 dX12_lays_44 (Nat.le_of_ble_eq_true rfl) rfl (zk_inb_in b5) em6 ?_
        refine zk_iload_n (i := 2) dX12_lays_45 rfl rfl ?_
        refine zk_aload_n (i := 0) dX12_lays_46 rfl rfl ?_
        refine zk_getI 0 12 2 dX12_lays_47 zf_X12_77 (Nat.le_of_ble_eq_true rfl) rfl rfl ?_
        refine zk_iconst dX12_lays_50 zki_1 ?_
        refine zk_iadd dX12_lays_51 ?_
        obtain ⟨b7, h⟩ := zk_dz h
        refine zk_idiv dX12_lays_52 b7 ?_
        obtain ⟨v8, ev8, h⟩ := zk_lt h
        refine zk_istore_n' (i := 2) dX12_lays_53 rfl ev8 (Nat.le_of_ble_eq_true rfl) rfl ?_
        refine zk_iinc2 dX12_lays_54 rfl zki_m1 (Nat.le_of_ble_eq_true rfl) rfl ?_
        refine zk_goto 9 dX12_lays_57 rfl ?_
        exact zk_weak (zk_leS (zk_leN (zk_leS (zk_leS (zk_leN zk_leE))))) (ih m6 v8 (x3 + (-1 : Int32)) _ h he)
      have h := hq3
      clear hq3
      refine zk_icmp_ne 42 dX12_lays_34 rfl (fun c4 => ?_) (fun c4 => ?_)
      · have h := zk_if _ h c4
        refine zk_iload dX12_lays_42 rfl ?_
        subst h
        exact zk_weak (zk_leS (zk_leN (zk_leS (zk_leS (zk_leN zk_leE))))) Jq3
      · have h := zk_it _ h c4
        refine zk_bipush dX12_lays_37 zkb_m9 ?_
        refine zk_goto 44 dX12_lays_39 rfl ?_
        subst h
        exact zk_weak (zk_leS (zk_leN (zk_leS (zk_leS (zk_leN zk_leE))))) Jq3
set_option maxRecDepth 100000 in
set_option maxHeartbeats 4000000 in
theorem fMd_lays_ok {d : Nat} (hd : 1 ≤ d) (mem : zkM) (a1 : Int32) (z : zkM) (h : fMd_lays mem a1 = some z) : zk_X zSM d zY_X12_lays [.ref 0, .int a1] mem (none, z) := by
  unfold fMd_lays at h
  refine zk_meet (n := 3) (lv := [some (.ref 0), some (.int a1), none, none, none]) zpn_X12 rfl (Nat.le_of_ble_eq_true rfl) ?_
  refine zk_iload_n (i := 1) dX12_lays_0 rfl rfl ?_
  refine zk_istore_n (i := 2) dX12_lays_1 rfl (Nat.le_of_ble_eq_true rfl) rfl ?_
  refine zk_aload_n (i := 0) dX12_lays_2 rfl rfl ?_
  refine zk_getI 0 12 4 dX12_lays_3 zf_X12_80 (Nat.le_of_ble_eq_true rfl) rfl rfl ?_
  refine zk_iconst dX12_lays_6 zki_1 ?_
  refine zk_isub dX12_lays_7 ?_
  obtain ⟨v1, ev1, h⟩ := zk_lt h
  refine zk_istore_n' (i := 3) dX12_lays_8 rfl ev1 (Nat.le_of_ble_eq_true rfl) rfl ?_
  obtain ⟨q2, hq2, h⟩ := zk_ob h
  refine zk_weak (zk_leS (zk_leN (zk_leS (zk_leS (zk_leN zk_leE))))) (fMd_lays_L9_ok hd 500 mem a1 v1 _ hq2 ?_)
  refine zk_aload_n (i := 0) dX12_lays_60 rfl rfl ?_
  obtain ⟨q3, hq3, h⟩ := zk_ob h
  refine zk_callVv zY_X12_layLoads 0 12 [] dX12_lays_61 zl_X12_layLoads zc_X12_151 zk_ok12 (Nat.le_of_ble_eq_true rfl) rfl (fMd_layLoads_ok (d := 0) (Nat.le_refl _) q2  _ hq3) (Nat.lt_of_lt_of_le (by decide) hd) (Nat.le_of_ble_eq_true rfl) ?_
  exact zk_vreturn dX12_lays_64 rfl (zk_rVw (Option.some.inj h))
set_option maxRecDepth 100000 in
set_option maxHeartbeats 4000000 in
theorem fMd_standing_L4_ok {d : Nat} {Z : zkZ} (hd : 0 ≤ d)  : ∀ (n : Nat) (mem : zkM) (x1 : Int32) (x2 : Int32) (z : Int32), fMd_standing_L4 n mem x1 x2 = some z → zk_J zSM d zY_X12_standing Z 37 [none, some (.int z), none] [] mem → zk_J zSM d zY_X12_standing Z 4 [some (.ref 0), some (.int x1), some (.int x2)] [] mem := by
  intro n
  induction n with
  | zero => intro mem x1 x2 z h; cases h
  | succ n ih =>
    intro mem x1 x2 z h he
    rw [fMd_standing_L4] at h
    refine zk_iload_n (i := 2) dX12_standing_4 rfl rfl ?_
    refine zk_aload_n (i := 0) dX12_standing_5 rfl rfl ?_
    refine zk_getI 0 12 4 dX12_standing_6 zf_X12_80 (Nat.le_of_ble_eq_true rfl) rfl rfl ?_
    refine zk_icmp_ge 37 dX12_standing_9 rfl (fun c5 => ?_) (fun c5 => ?_)
    · have h := zk_it _ h c5
      cases h
      exact zk_weak (zk_leN (zk_leS (zk_leN zk_leE))) he
    · have h := zk_if _ h c5
      refine zk_iload_n (i := 1) dX12_standing_12 rfl rfl ?_
      refine zk_aload_n (i := 0) dX12_standing_13 rfl rfl ?_
      refine zk_getR 0 12 27 dX12_standing_14 zf_X12_47 (Nat.le_of_ble_eq_true rfl) rfl rfl ?_
      refine zk_iload_n (i := 2) dX12_standing_17 rfl rfl ?_
      obtain ⟨b1, h⟩ := zk_gd h
      refine zk_iaload 13 5 dX12_standing_18 (Nat.le_of_ble_eq_true rfl) rfl (zk_inb_in b1) ?_
      refine zk_bipush dX12_standing_19 zkb_m9 ?_
      obtain ⟨q2, hq2, h⟩ := zk_lt h
      have Jq2 : zk_J zSM d zY_X12_standing Z 29 [some (.ref 0), none, some (.int x2)] [.int (zk_b q2), .int x1] mem := by
        refine zk_iadd dX12_standing_29 ?_
        obtain ⟨v4, ev4, h⟩ := zk_lt h
        refine zk_istore_n' (i := 1) dX12_standing_30 rfl ev4 (Nat.le_of_ble_eq_true rfl) rfl ?_
        refine zk_iinc2 dX12_standing_31 rfl zki_1 (Nat.le_of_ble_eq_true rfl) rfl ?_
        refine zk_goto 4 dX12_standing_34 rfl ?_
        exact zk_weak (zk_leS (zk_leS (zk_leS zk_leE))) (ih mem v4 (x2 + (1 : Int32)) _ h he)
      have h := hq2
      clear hq2
      refine zk_icmp_ne 28 dX12_standing_21 rfl (fun c3 => ?_) (fun c3 => ?_)
      · have h := zk_if _ h c3
        refine zk_iconst dX12_standing_28 zki_1 ?_
        subst h
        exact zk_weak (zk_leS (zk_leN (zk_leS zk_leE))) Jq2
      · have h := zk_it _ h c3
        refine zk_iconst dX12_standing_24 zki_0 ?_
        refine zk_goto 29 dX12_standing_25 rfl ?_
        subst h
        exact zk_weak (zk_leS (zk_leN (zk_leS zk_leE))) Jq2
set_option maxRecDepth 100000 in
set_option maxHeartbeats 4000000 in
theorem fMd_standing_ok {d : Nat} (hd : 0 ≤ d) (mem : zkM) (z : Int32) (h : fMd_standing mem = some z) : zk_X zSM d zY_X12_standing [.ref 0] mem (some (.int z), mem) := by
  unfold fMd_standing at h
  refine zk_meet (n := 2) (lv := [some (.ref 0), none, none]) zpn_X12 rfl (Nat.le_of_ble_eq_true rfl) ?_
  refine zk_iconst dX12_standing_0 zki_0 ?_
  refine zk_istore_n (i := 1) dX12_standing_1 rfl (Nat.le_of_ble_eq_true rfl) rfl ?_
  refine zk_iconst dX12_standing_2 zki_0 ?_
  refine zk_istore_n (i := 2) dX12_standing_3 rfl (Nat.le_of_ble_eq_true rfl) rfl ?_
  obtain ⟨q1, hq1, h⟩ := zk_ob h
  refine zk_weak (zk_leS (zk_leS (zk_leS zk_leE))) (fMd_standing_L4_ok hd 500 mem (0 : Int32) (0 : Int32) _ hq1 ?_)
  refine zk_iload_n (i := 1) dX12_standing_37 rfl rfl ?_
  exact zk_ireturn dX12_standing_38 rfl (zk_rI (Option.some.inj h))
set_option maxRecDepth 100000 in
set_option maxHeartbeats 4000000 in
theorem fMd_paid_L4_ok {d : Nat} {Z : zkZ} (hd : 0 ≤ d)  : ∀ (n : Nat) (mem : zkM) (x1 : Int32) (x2 : Int32) (z : Int32), fMd_paid_L4 n mem x1 x2 = some z → zk_J zSM d zY_X12_paid Z 46 [none, some (.int z), none] [] mem → zk_J zSM d zY_X12_paid Z 4 [some (.ref 0), some (.int x1), some (.int x2)] [] mem := by
  intro n
  induction n with
  | zero => intro mem x1 x2 z h; cases h
  | succ n ih =>
    intro mem x1 x2 z h he
    rw [fMd_paid_L4] at h
    refine zk_iload_n (i := 2) dX12_paid_4 rfl rfl ?_
    refine zk_aload_n (i := 0) dX12_paid_5 rfl rfl ?_
    refine zk_getI 0 12 4 dX12_paid_6 zf_X12_80 (Nat.le_of_ble_eq_true rfl) rfl rfl ?_
    refine zk_icmp_ge 46 dX12_paid_9 rfl (fun c6 => ?_) (fun c6 => ?_)
    · have h := zk_it _ h c6
      cases h
      exact zk_weak (zk_leN (zk_leS (zk_leN zk_leE))) he
    · have h := zk_if _ h c6
      refine zk_iload_n (i := 1) dX12_paid_12 rfl rfl ?_
      refine zk_aload_n (i := 0) dX12_paid_13 rfl rfl ?_
      refine zk_getR 0 12 27 dX12_paid_14 zf_X12_47 (Nat.le_of_ble_eq_true rfl) rfl rfl ?_
      refine zk_iload_n (i := 2) dX12_paid_17 rfl rfl ?_
      obtain ⟨b1, h⟩ := zk_gd h
      refine zk_iaload 13 5 dX12_paid_18 (Nat.le_of_ble_eq_true rfl) rfl (zk_inb_in b1) ?_
      refine zk_bipush dX12_paid_19 zkb_m9 ?_
      obtain ⟨q2, hq2, h⟩ := zk_ob h
      have Jq2 : zk_J zSM d zY_X12_paid Z 38 [some (.ref 0), none, some (.int x2)] [.int q2, .int x1] mem := by
        refine zk_iadd dX12_paid_38 ?_
        obtain ⟨v5, ev5, h⟩ := zk_lt h
        refine zk_istore_n' (i := 1) dX12_paid_39 rfl ev5 (Nat.le_of_ble_eq_true rfl) rfl ?_
        refine zk_iinc2 dX12_paid_40 rfl zki_1 (Nat.le_of_ble_eq_true rfl) rfl ?_
        refine zk_goto 4 dX12_paid_43 rfl ?_
        exact zk_weak (zk_leS (zk_leS (zk_leS zk_leE))) (ih mem v5 (x2 + (1 : Int32)) _ h he)
      have h := hq2
      clear hq2
      refine zk_icmp_ne 28 dX12_paid_21 rfl (fun c4 => ?_) (fun c4 => ?_)
      · have h := zk_if _ h c4
        refine zk_aload_n (i := 0) dX12_paid_28 rfl rfl ?_
        refine zk_getR 0 12 5 dX12_paid_29 zf_X12_16 (Nat.le_of_ble_eq_true rfl) rfl rfl ?_
        refine zk_iconst dX12_paid_32 zki_2 ?_
        refine zk_iload_n (i := 2) dX12_paid_33 rfl rfl ?_
        refine zk_imul dX12_paid_34 ?_
        refine zk_iconst dX12_paid_35 zki_1 ?_
        refine zk_iadd dX12_paid_36 ?_
        obtain ⟨b3, h⟩ := zk_gd h
        refine zk_iaload 3 10 dX12_paid_37 (Nat.le_of_ble_eq_true rfl) rfl (zk_inb_in b3) ?_
        cases h
        exact zk_weak (zk_leS (zk_leN (zk_leS zk_leE))) Jq2
      · have h := zk_it _ h c4
        refine zk_iconst dX12_paid_24 zki_0 ?_
        refine zk_goto 38 dX12_paid_25 rfl ?_
        cases h
        exact zk_weak (zk_leS (zk_leN (zk_leS zk_leE))) Jq2
set_option maxRecDepth 100000 in
set_option maxHeartbeats 4000000 in
theorem fMd_paid_ok {d : Nat} (hd : 0 ≤ d) (mem : zkM) (z : Int32) (h : fMd_paid mem = some z) : zk_X zSM d zY_X12_paid [.ref 0] mem (some (.int z), mem) := by
  unfold fMd_paid at h
  refine zk_meet (n := 2) (lv := [some (.ref 0), none, none]) zpn_X12 rfl (Nat.le_of_ble_eq_true rfl) ?_
  refine zk_iconst dX12_paid_0 zki_0 ?_
  refine zk_istore_n (i := 1) dX12_paid_1 rfl (Nat.le_of_ble_eq_true rfl) rfl ?_
  refine zk_iconst dX12_paid_2 zki_0 ?_
  refine zk_istore_n (i := 2) dX12_paid_3 rfl (Nat.le_of_ble_eq_true rfl) rfl ?_
  obtain ⟨q1, hq1, h⟩ := zk_ob h
  refine zk_weak (zk_leS (zk_leS (zk_leS zk_leE))) (fMd_paid_L4_ok hd 500 mem (0 : Int32) (0 : Int32) _ hq1 ?_)
  refine zk_iload_n (i := 1) dX12_paid_46 rfl rfl ?_
  exact zk_ireturn dX12_paid_47 rfl (zk_rI (Option.some.inj h))
set_option maxRecDepth 100000 in
set_option maxHeartbeats 4000000 in
theorem fMd_worth_ok {d : Nat} (hd : 1 ≤ d) (mem : zkM) (a1 : Bool) (z : Int32) (h : fMd_worth mem a1 = some z) : zk_X zSM d zY_X12_worth [.ref 0, .int (zk_b a1)] mem (some (.int z), mem) := by
  unfold fMd_worth at h
  refine zk_meet (n := 0) (lv := [some (.ref 0), some (.int (zk_b a1))]) zpn_X12 rfl (Nat.le_of_ble_eq_true rfl) ?_
  refine zk_iload_n (i := 1) dX12_worth_0 rfl rfl ?_
  refine zk_if_eq 22 dX12_worth_1 rfl (fun c4 => ?_) (fun c4 => ?_)
  · have h := zk_it _ h c4
    refine zk_aload_n (i := 0) dX12_worth_22 rfl rfl ?_
    obtain ⟨q1, hq1, h⟩ := zk_ob h
    refine zk_callVi zY_X12_standing 0 12 [] dX12_worth_23 zl_X12_standing zc_X12_219 zk_ok12 (Nat.le_of_ble_eq_true rfl) rfl (fMd_standing_ok (d := 0) (Nat.le_refl _) mem  _ hq1) (Nat.lt_of_lt_of_le (by decide) hd) (Nat.le_of_ble_eq_true rfl) ?_
    exact zk_ireturn dX12_worth_26 rfl (zk_rI (Option.some.inj h))
  · have h := zk_if _ h c4
    refine zk_bipush dX12_worth_4 zkb_10 ?_
    refine zk_aload_n (i := 0) dX12_worth_6 rfl rfl ?_
    obtain ⟨q2, hq2, h⟩ := zk_ob h
    refine zk_callVi zY_X12_paid 0 12 [] dX12_worth_7 zl_X12_paid zc_X12_216 zk_ok12 (Nat.le_of_ble_eq_true rfl) rfl (fMd_paid_ok (d := 0) (Nat.le_refl _) mem  _ hq2) (Nat.lt_of_lt_of_le (by decide) hd) (Nat.le_of_ble_eq_true rfl) ?_
    refine zk_imul dX12_worth_10 ?_
    refine zk_bipush dX12_worth_11 zkb_9 ?_
    refine zk_iadd dX12_worth_13 ?_
    refine zk_aload_n (i := 0) dX12_worth_14 rfl rfl ?_
    obtain ⟨q3, hq3, h⟩ := zk_ob h
    refine zk_callVi zY_X12_standing 0 12 [] dX12_worth_15 zl_X12_standing zc_X12_219 zk_ok12 (Nat.le_of_ble_eq_true rfl) rfl (fMd_standing_ok (d := 0) (Nat.le_refl _) mem  _ hq3) (Nat.lt_of_lt_of_le (by decide) hd) (Nat.le_of_ble_eq_true rfl) ?_
    refine zk_isub dX12_worth_18 ?_
    refine zk_goto 26 dX12_worth_19 rfl ?_
    exact zk_ireturn dX12_worth_26 rfl (zk_rI (Option.some.inj h))
set_option maxRecDepth 100000 in
set_option maxHeartbeats 4000000 in
theorem fMd_bestRow_L8_ok {d : Nat} {Z : zkZ} (hd : 2 ≤ d)  : ∀ (n : Nat) (mem : zkM) (x1 : Bool) (x2 : Int32) (x3 : Int32) (z : Int32), fMd_bestRow_L8 n mem x2 x3 = some z → zk_J zSM d zY_X12_bestRow Z 31 [some (.ref 0), some (.int (zk_b x1)), some (.int z), none, none, none, none] [] mem → zk_J zSM d zY_X12_bestRow Z 8 [some (.ref 0), some (.int (zk_b x1)), some (.int x2), some (.int x3), none, none, none] [] mem := by
  intro n
  induction n with
  | zero => intro mem x1 x2 x3 z h; cases h
  | succ n ih =>
    intro mem x1 x2 x3 z h he
    rw [fMd_bestRow_L8] at h
    refine zk_iload_n (i := 3) dX12_bestRow_8 rfl rfl ?_
    refine zk_aload_n (i := 0) dX12_bestRow_9 rfl rfl ?_
    refine zk_getI 0 12 4 dX12_bestRow_10 zf_X12_80 (Nat.le_of_ble_eq_true rfl) rfl rfl ?_
    refine zk_icmp_ge 31 dX12_bestRow_13 rfl (fun c2 => ?_) (fun c2 => ?_)
    · have h := zk_it _ h c2
      cases h
      exact zk_weak (zk_leS (zk_leS (zk_leS (zk_leN (zk_leN (zk_leN (zk_leN zk_leE))))))) he
    · have h := zk_if _ h c2
      refine zk_iload_n (i := 2) dX12_bestRow_16 rfl rfl ?_
      refine zk_aload_n (i := 0) dX12_bestRow_17 rfl rfl ?_
      refine zk_getI 0 12 2 dX12_bestRow_18 zf_X12_77 (Nat.le_of_ble_eq_true rfl) rfl rfl ?_
      refine zk_iconst dX12_bestRow_21 zki_1 ?_
      refine zk_iadd dX12_bestRow_22 ?_
      refine zk_imul dX12_bestRow_23 ?_
      obtain ⟨v1, ev1, h⟩ := zk_lt h
      refine zk_istore_n' (i := 2) dX12_bestRow_24 rfl ev1 (Nat.le_of_ble_eq_true rfl) rfl ?_
      refine zk_iinc2 dX12_bestRow_25 rfl zki_1 (Nat.le_of_ble_eq_true rfl) rfl ?_
      refine zk_goto 8 dX12_bestRow_28 rfl ?_
      exact zk_weak (zk_leS (zk_leS (zk_leS (zk_leS (zk_leN (zk_leN (zk_leN zk_leE))))))) (ih mem x1 v1 (x3 + (1 : Int32)) _ h he)
set_option maxRecDepth 100000 in
set_option maxHeartbeats 4000000 in
theorem fMd_bestRow_L39_ok {d : Nat} {Z : zkZ} (hd : 2 ≤ d)  : ∀ (n : Nat) (mem : zkM) (x1 : Bool) (x2 : Int32) (x3 : Int32) (x4 : Int32) (x5 : Int32) (z : Int32 × zkM), fMd_bestRow_L39 n mem x1 x2 x3 x4 x5 = some z → zk_J zSM d zY_X12_bestRow Z 85 [none, none, none, some (.int z.1), none, none, none] [] z.2 → zk_J zSM d zY_X12_bestRow Z 39 [some (.ref 0), some (.int (zk_b x1)), some (.int x2), some (.int x3), some (.int x4), some (.int x5), none] [] mem := by
  intro n
  induction n with
  | zero => intro mem x1 x2 x3 x4 x5 z h; cases h
  | succ n ih =>
    intro mem x1 x2 x3 x4 x5 z h he
    rw [fMd_bestRow_L39] at h
    refine zk_iload dX12_bestRow_39 rfl ?_
    refine zk_iload_n (i := 2) dX12_bestRow_41 rfl rfl ?_
    refine zk_icmp_ge 85 dX12_bestRow_42 rfl (fun c7 => ?_) (fun c7 => ?_)
    · have h := zk_it _ h c7
      cases h
      exact zk_weak (zk_leN (zk_leN (zk_leN (zk_leS (zk_leN (zk_leN (zk_leN zk_leE))))))) he
    · have h := zk_if _ h c7
      refine zk_aload_n (i := 0) dX12_bestRow_45 rfl rfl ?_
      refine zk_iload dX12_bestRow_46 rfl ?_
      obtain ⟨q1, hq1, h⟩ := zk_ob h
      refine zk_callVv zY_X12_lays 0 12 [_] dX12_bestRow_48 zl_X12_lays zc_X12_222 zk_ok12 (Nat.le_of_ble_eq_true rfl) rfl (fMd_lays_ok (d := 1) (Nat.le_refl _) mem _ _ hq1) (Nat.lt_of_lt_of_le (by decide) hd) (Nat.le_of_ble_eq_true rfl) ?_
      refine zk_aload_n (i := 0) dX12_bestRow_51 rfl rfl ?_
      refine zk_iload_n (i := 1) dX12_bestRow_52 rfl rfl ?_
      obtain ⟨q2, hq2, h⟩ := zk_ob h
      refine zk_callVi zY_X12_worth 0 12 [_] dX12_bestRow_53 zl_X12_worth zc_X12_226 zk_ok12 (Nat.le_of_ble_eq_true rfl) rfl (fMd_worth_ok (d := 1) (Nat.le_refl _) q1 _ _ hq2) (Nat.lt_of_lt_of_le (by decide) hd) (Nat.le_of_ble_eq_true rfl) ?_
      refine zk_istore dX12_bestRow_56 (Nat.le_of_ble_eq_true rfl) rfl ?_
      refine zk_iload dX12_bestRow_58 rfl ?_
      refine zk_iload dX12_bestRow_60 rfl ?_
      obtain ⟨q3, hq3, h⟩ := zk_ob h
      have Jq3 : zk_J zSM d zY_X12_bestRow Z 79 [some (.ref 0), some (.int (zk_b x1)), some (.int x2), some (.int q3.1), some (.int q3.2), some (.int x5), none] [] q1 := by
        refine zk_iinc2 dX12_bestRow_79 rfl zki_1 (Nat.le_of_ble_eq_true rfl) rfl ?_
        refine zk_goto 39 dX12_bestRow_82 rfl ?_
        exact zk_weak (zk_leS (zk_leS (zk_leS (zk_leS (zk_leS (zk_leS (zk_leN zk_leE))))))) (ih q1 x1 x2 q3.1 q3.2 (x5 + (1 : Int32)) _ h he)
      have h := hq3
      clear hq3
      refine zk_icmp_le 79 dX12_bestRow_62 rfl (fun c6 => ?_) (fun c6 => ?_)
      · have h := zk_it _ h c6
        cases h
        exact zk_weak (zk_leS (zk_leS (zk_leS (zk_leS (zk_leS (zk_leS (zk_leN zk_leE))))))) Jq3
      · have h := zk_if _ h c6
        refine zk_aload_n (i := 0) dX12_bestRow_65 rfl rfl ?_
        obtain ⟨q4, hq4, h⟩ := zk_ob h
        refine zk_callVi zY_X12_holdsAll 0 12 [] dX12_bestRow_66 zl_X12_holdsAll zc_X12_198 zk_ok12 (Nat.le_of_ble_eq_true rfl) rfl (fMd_holdsAll_ok (d := 1) (Nat.le_refl _) q1  _ hq4) (Nat.lt_of_lt_of_le (by decide) hd) (Nat.le_of_ble_eq_true rfl) ?_
        refine zk_if_eq 79 dX12_bestRow_69 rfl (fun c5 => ?_) (fun c5 => ?_)
        · have h := zk_it _ h c5
          cases h
          exact zk_weak (zk_leS (zk_leS (zk_leS (zk_leS (zk_leS (zk_leS (zk_leN zk_leE))))))) Jq3
        · have h := zk_if _ h c5
          refine zk_iload dX12_bestRow_72 rfl ?_
          refine zk_istore_n (i := 3) dX12_bestRow_74 rfl (Nat.le_of_ble_eq_true rfl) rfl ?_
          refine zk_iload dX12_bestRow_75 rfl ?_
          refine zk_istore dX12_bestRow_77 (Nat.le_of_ble_eq_true rfl) rfl ?_
          cases h
          exact zk_weak (zk_leS (zk_leS (zk_leS (zk_leS (zk_leS (zk_leS (zk_leN zk_leE))))))) Jq3
set_option maxRecDepth 100000 in
set_option maxHeartbeats 4000000 in
theorem fMd_bestRow_ok {d : Nat} (hd : 2 ≤ d) (mem : zkM) (a1 : Bool) (z : Int32 × zkM) (h : fMd_bestRow mem a1 = some z) : zk_X zSM d zY_X12_bestRow [.ref 0, .int (zk_b a1)] mem (some (.int z.1), z.2) := by
  unfold fMd_bestRow at h
  refine zk_meet (n := 5) (lv := [some (.ref 0), some (.int (zk_b a1)), none, none, none, none, none]) zpn_X12 rfl (Nat.le_of_ble_eq_true rfl) ?_
  refine zk_aload_n (i := 0) dX12_bestRow_0 rfl rfl ?_
  obtain ⟨q1, hq1, h⟩ := zk_ob h
  refine zk_callVv zY_X12_layEnds 0 12 [] dX12_bestRow_1 zl_X12_layEnds zc_X12_195 zk_ok12 (Nat.le_of_ble_eq_true rfl) rfl (fMd_layEnds_ok (d := 0) (Nat.le_refl _) mem  _ hq1) (Nat.lt_of_lt_of_le (by decide) hd) (Nat.le_of_ble_eq_true rfl) ?_
  refine zk_iconst dX12_bestRow_4 zki_1 ?_
  refine zk_istore_n (i := 2) dX12_bestRow_5 rfl (Nat.le_of_ble_eq_true rfl) rfl ?_
  refine zk_iconst dX12_bestRow_6 zki_0 ?_
  refine zk_istore_n (i := 3) dX12_bestRow_7 rfl (Nat.le_of_ble_eq_true rfl) rfl ?_
  obtain ⟨q2, hq2, h⟩ := zk_ob h
  refine zk_weak (zk_leS (zk_leS (zk_leS (zk_leS (zk_leN (zk_leN (zk_leN zk_leE))))))) (fMd_bestRow_L8_ok hd 500 q1 a1 (1 : Int32) (0 : Int32) _ hq2 ?_)
  refine zk_iconst dX12_bestRow_31 zki_0 ?_
  refine zk_istore_n (i := 3) dX12_bestRow_32 rfl (Nat.le_of_ble_eq_true rfl) rfl ?_
  refine zk_iconst dX12_bestRow_33 zki_m1 ?_
  refine zk_istore dX12_bestRow_34 (Nat.le_of_ble_eq_true rfl) rfl ?_
  refine zk_iconst dX12_bestRow_36 zki_0 ?_
  refine zk_istore dX12_bestRow_37 (Nat.le_of_ble_eq_true rfl) rfl ?_
  obtain ⟨q3, hq3, h⟩ := zk_ob h
  refine zk_weak (zk_leS (zk_leS (zk_leS (zk_leS (zk_leS (zk_leS (zk_leN zk_leE))))))) (fMd_bestRow_L39_ok hd 20000 q1 a1 q2 (0 : Int32) (-1 : Int32) (0 : Int32) _ hq3 ?_)
  refine zk_iload_n (i := 3) dX12_bestRow_85 rfl rfl ?_
  exact zk_ireturn dX12_bestRow_86 rfl (zk_rIw (Option.some.inj h))
set_option maxRecDepth 100000 in
set_option maxHeartbeats 4000000 in
theorem fMd_tells_ok {d : Nat} (hd : 3 ≤ d) (mem : zkM) (a1 : Int32) (a2 : Bool) (z : Int32 × zkM) (h : fMd_tells mem a1 a2 = some z) : zk_X zSM d zY_X12_tells [.ref 0, .int a1, .int (zk_b a2)] mem (some (.int z.1), z.2) := by
  unfold fMd_tells at h
  refine zk_meet (n := 0) (lv := [some (.ref 0), some (.int a1), some (.int (zk_b a2))]) zpn_X12 rfl (Nat.le_of_ble_eq_true rfl) ?_
  refine zk_iload_n (i := 1) dX12_tells_0 rfl rfl ?_
  refine zk_bipush dX12_tells_1 zkb_m9 ?_
  refine zk_icmp_eq 16 dX12_tells_3 rfl (fun c20 => ?_) (fun c20 => ?_)
  · have h := zk_it _ h c20
    refine zk_aload_n (i := 0) dX12_tells_16 rfl rfl ?_
    refine zk_aload_n (i := 0) dX12_tells_17 rfl rfl ?_
    refine zk_iload_n (i := 2) dX12_tells_18 rfl rfl ?_
    obtain ⟨q1, hq1, h⟩ := zk_ob h
    refine zk_callVi zY_X12_bestRow 0 12 [_] dX12_tells_19 zl_X12_bestRow zc_X12_230 zk_ok12 (Nat.le_of_ble_eq_true rfl) rfl (fMd_bestRow_ok (d := 2) (Nat.le_refl _) mem _ _ hq1) (Nat.lt_of_lt_of_le (by decide) hd) (Nat.le_of_ble_eq_true rfl) ?_
    obtain ⟨q2, hq2, h⟩ := zk_ob h
    refine zk_callVv zY_X12_lays 0 12 [_] dX12_tells_22 zl_X12_lays zc_X12_222 zk_ok12 (Nat.le_of_ble_eq_true rfl) rfl (fMd_lays_ok (d := 1) (Nat.le_refl _) q1.2 _ _ hq2) (Nat.lt_of_lt_of_le (by decide) hd) (Nat.le_of_ble_eq_true rfl) ?_
    refine zk_iload_n (i := 1) dX12_tells_25 rfl rfl ?_
    refine zk_bipush dX12_tells_26 zkb_m9 ?_
    refine zk_icmp_ne 47 dX12_tells_28 rfl (fun c9 => ?_) (fun c9 => ?_)
    · have h := zk_if _ h c9
      refine zk_aload_n (i := 0) dX12_tells_47 rfl rfl ?_
      refine zk_getR 0 12 27 dX12_tells_48 zf_X12_47 (Nat.le_of_ble_eq_true rfl) rfl rfl ?_
      refine zk_iload_n (i := 1) dX12_tells_51 rfl rfl ?_
      obtain ⟨b3, h⟩ := zk_gd h
      refine zk_iaload 13 5 dX12_tells_52 (Nat.le_of_ble_eq_true rfl) rfl (zk_inb_in b3) ?_
      refine zk_bipush dX12_tells_53 zkb_m9 ?_
      refine zk_icmp_ne 63 dX12_tells_55 rfl (fun c5 => ?_) (fun c5 => ?_)
      · have h := zk_if _ h c5
        refine zk_aload_n (i := 0) dX12_tells_63 rfl rfl ?_
        refine zk_getR 0 12 27 dX12_tells_64 zf_X12_47 (Nat.le_of_ble_eq_true rfl) rfl rfl ?_
        refine zk_iload_n (i := 1) dX12_tells_67 rfl rfl ?_
        obtain ⟨b4, h⟩ := zk_gd h
        refine zk_iaload 13 5 dX12_tells_68 (Nat.le_of_ble_eq_true rfl) rfl (zk_inb_in b4) ?_
        exact zk_ireturn dX12_tells_69 rfl (zk_rIw (Option.some.inj h))
      · have h := zk_it _ h c5
        refine zk_bipush dX12_tells_58 zkb_m5 ?_
        refine zk_goto 69 dX12_tells_60 rfl ?_
        exact zk_ireturn dX12_tells_69 rfl (zk_rIw (Option.some.inj h))
    · have h := zk_it _ h c9
      refine zk_iload_n (i := 2) dX12_tells_31 rfl rfl ?_
      refine zk_if_eq 42 dX12_tells_32 rfl (fun c8 => ?_) (fun c8 => ?_)
      · have h := zk_it _ h c8
        refine zk_aload_n (i := 0) dX12_tells_42 rfl rfl ?_
        obtain ⟨q6, hq6, h⟩ := zk_ob h
        refine zk_callVi zY_X12_standing 0 12 [] dX12_tells_43 zl_X12_standing zc_X12_219 zk_ok12 (Nat.le_of_ble_eq_true rfl) rfl (fMd_standing_ok (d := 0) (Nat.le_refl _) q2  _ hq6) (Nat.lt_of_lt_of_le (by decide) hd) (Nat.le_of_ble_eq_true rfl) ?_
        exact zk_ireturn dX12_tells_46 rfl (zk_rIw (Option.some.inj h))
      · have h := zk_if _ h c8
        refine zk_aload_n (i := 0) dX12_tells_35 rfl rfl ?_
        obtain ⟨q7, hq7, h⟩ := zk_ob h
        refine zk_callVi zY_X12_paid 0 12 [] dX12_tells_36 zl_X12_paid zc_X12_216 zk_ok12 (Nat.le_of_ble_eq_true rfl) rfl (fMd_paid_ok (d := 0) (Nat.le_refl _) q2  _ hq7) (Nat.lt_of_lt_of_le (by decide) hd) (Nat.le_of_ble_eq_true rfl) ?_
        refine zk_goto 46 dX12_tells_39 rfl ?_
        exact zk_ireturn dX12_tells_46 rfl (zk_rIw (Option.some.inj h))
  · have h := zk_if _ h c20
    refine zk_aload_n (i := 0) dX12_tells_6 rfl rfl ?_
    refine zk_iload_n (i := 1) dX12_tells_7 rfl rfl ?_
    refine zk_callVi zY_X12_isChild 0 12 [_] dX12_tells_8 zl_X12_isChild zc_X12_192 zk_ok12 (Nat.le_of_ble_eq_true rfl) rfl (fMd_isChild_ok (d := 1) (Nat.le_refl _) mem _ _ rfl) (Nat.lt_of_lt_of_le (by decide) hd) (Nat.le_of_ble_eq_true rfl) ?_
    refine zk_if_ne 16 dX12_tells_11 rfl (fun c19 => ?_) (fun c19 => ?_)
    · have h := zk_if _ h c19
      refine zk_aload_n (i := 0) dX12_tells_16 rfl rfl ?_
      refine zk_aload_n (i := 0) dX12_tells_17 rfl rfl ?_
      refine zk_iload_n (i := 2) dX12_tells_18 rfl rfl ?_
      obtain ⟨q10, hq10, h⟩ := zk_ob h
      refine zk_callVi zY_X12_bestRow 0 12 [_] dX12_tells_19 zl_X12_bestRow zc_X12_230 zk_ok12 (Nat.le_of_ble_eq_true rfl) rfl (fMd_bestRow_ok (d := 2) (Nat.le_refl _) mem _ _ hq10) (Nat.lt_of_lt_of_le (by decide) hd) (Nat.le_of_ble_eq_true rfl) ?_
      obtain ⟨q11, hq11, h⟩ := zk_ob h
      refine zk_callVv zY_X12_lays 0 12 [_] dX12_tells_22 zl_X12_lays zc_X12_222 zk_ok12 (Nat.le_of_ble_eq_true rfl) rfl (fMd_lays_ok (d := 1) (Nat.le_refl _) q10.2 _ _ hq11) (Nat.lt_of_lt_of_le (by decide) hd) (Nat.le_of_ble_eq_true rfl) ?_
      refine zk_iload_n (i := 1) dX12_tells_25 rfl rfl ?_
      refine zk_bipush dX12_tells_26 zkb_m9 ?_
      refine zk_icmp_ne 47 dX12_tells_28 rfl (fun c18 => ?_) (fun c18 => ?_)
      · have h := zk_if _ h c18
        refine zk_aload_n (i := 0) dX12_tells_47 rfl rfl ?_
        refine zk_getR 0 12 27 dX12_tells_48 zf_X12_47 (Nat.le_of_ble_eq_true rfl) rfl rfl ?_
        refine zk_iload_n (i := 1) dX12_tells_51 rfl rfl ?_
        obtain ⟨b12, h⟩ := zk_gd h
        refine zk_iaload 13 5 dX12_tells_52 (Nat.le_of_ble_eq_true rfl) rfl (zk_inb_in b12) ?_
        refine zk_bipush dX12_tells_53 zkb_m9 ?_
        refine zk_icmp_ne 63 dX12_tells_55 rfl (fun c14 => ?_) (fun c14 => ?_)
        · have h := zk_if _ h c14
          refine zk_aload_n (i := 0) dX12_tells_63 rfl rfl ?_
          refine zk_getR 0 12 27 dX12_tells_64 zf_X12_47 (Nat.le_of_ble_eq_true rfl) rfl rfl ?_
          refine zk_iload_n (i := 1) dX12_tells_67 rfl rfl ?_
          obtain ⟨b13, h⟩ := zk_gd h
          refine zk_iaload 13 5 dX12_tells_68 (Nat.le_of_ble_eq_true rfl) rfl (zk_inb_in b13) ?_
          exact zk_ireturn dX12_tells_69 rfl (zk_rIw (Option.some.inj h))
        · have h := zk_it _ h c14
          refine zk_bipush dX12_tells_58 zkb_m5 ?_
          refine zk_goto 69 dX12_tells_60 rfl ?_
          exact zk_ireturn dX12_tells_69 rfl (zk_rIw (Option.some.inj h))
      · have h := zk_it _ h c18
        refine zk_iload_n (i := 2) dX12_tells_31 rfl rfl ?_
        refine zk_if_eq 42 dX12_tells_32 rfl (fun c17 => ?_) (fun c17 => ?_)
        · have h := zk_it _ h c17
          refine zk_aload_n (i := 0) dX12_tells_42 rfl rfl ?_
          obtain ⟨q15, hq15, h⟩ := zk_ob h
          refine zk_callVi zY_X12_standing 0 12 [] dX12_tells_43 zl_X12_standing zc_X12_219 zk_ok12 (Nat.le_of_ble_eq_true rfl) rfl (fMd_standing_ok (d := 0) (Nat.le_refl _) q11  _ hq15) (Nat.lt_of_lt_of_le (by decide) hd) (Nat.le_of_ble_eq_true rfl) ?_
          exact zk_ireturn dX12_tells_46 rfl (zk_rIw (Option.some.inj h))
        · have h := zk_if _ h c17
          refine zk_aload_n (i := 0) dX12_tells_35 rfl rfl ?_
          obtain ⟨q16, hq16, h⟩ := zk_ob h
          refine zk_callVi zY_X12_paid 0 12 [] dX12_tells_36 zl_X12_paid zc_X12_216 zk_ok12 (Nat.le_of_ble_eq_true rfl) rfl (fMd_paid_ok (d := 0) (Nat.le_refl _) q11  _ hq16) (Nat.lt_of_lt_of_le (by decide) hd) (Nat.le_of_ble_eq_true rfl) ?_
          refine zk_goto 46 dX12_tells_39 rfl ?_
          exact zk_ireturn dX12_tells_46 rfl (zk_rIw (Option.some.inj h))
    · have h := zk_it _ h c19
      refine zk_iconst dX12_tells_14 zki_m1 ?_
      exact zk_ireturn dX12_tells_15 rfl (zk_rIw (Option.some.inj h))
