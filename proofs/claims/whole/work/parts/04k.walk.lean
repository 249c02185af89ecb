set_option maxRecDepth 100000 in
set_option maxHeartbeats 4000000 in
theorem fMd_most_ok {d : Nat} (hd : 4 ≤ d) (mem : zkM) (a1 : Int32) (z : Int32 × zkM) (h : fMd_most mem a1 = some z) : zk_X zSM d zY_X12_most [.ref 0, .int a1] mem (some (.int z.1), z.2) := by
  unfold fMd_most at h
  refine zk_meet (n := 0) (lv := [some (.ref 0), some (.int a1)]) zpn_X12 rfl (Nat.le_of_ble_eq_true rfl) ?_
  refine zk_aload_n (i := 0) dX12_most_0 rfl rfl ?_
  refine zk_iload_n (i := 1) dX12_most_1 rfl rfl ?_
  refine zk_iconst dX12_most_2 zki_0 ?_
  obtain ⟨q1, hq1, h⟩ := zk_ob h
  refine zk_callVi zY_X12_tells 0 12 [_, _] dX12_most_3 zl_X12_tells zc_X12_233 zk_ok12 (Nat.le_of_ble_eq_true rfl) rfl (fMd_tells_ok (d := 3) (Nat.le_refl _) mem _ _ _ hq1) (Nat.lt_of_lt_of_le (by decide) hd) (Nat.le_of_ble_eq_true rfl) ?_
  exact zk_ireturn dX12_most_6 rfl (zk_rIw (Option.some.inj h))
set_option maxRecDepth 100000 in
set_option maxHeartbeats 4000000 in
theorem fMd_richest_ok {d : Nat} (hd : 4 ≤ d) (mem : zkM) (a1 : Int32) (z : Int32 × zkM) (h : fMd_richest mem a1 = some z) : zk_X zSM d zY_X12_richest [.ref 0, .int a1] mem (some (.int z.1), z.2) := by
  unfold fMd_richest at h
  refine zk_meet (n := 0) (lv := [some (.ref 0), some (.int a1)]) zpn_X12 rfl (Nat.le_of_ble_eq_true rfl) ?_
  refine zk_aload_n (i := 0) dX12_richest_0 rfl rfl ?_
  refine zk_iload_n (i := 1) dX12_richest_1 rfl rfl ?_
  refine zk_iconst dX12_richest_2 zki_1 ?_
  obtain ⟨q1, hq1, h⟩ := zk_ob h
  refine zk_callVi zY_X12_tells 0 12 [_, _] dX12_richest_3 zl_X12_tells zc_X12_233 zk_ok12 (Nat.le_of_ble_eq_true rfl) rfl (fMd_tells_ok (d := 3) (Nat.le_refl _) mem _ _ _ hq1) (Nat.lt_of_lt_of_le (by decide) hd) (Nat.le_of_ble_eq_true rfl) ?_
  exact zk_ireturn dX12_richest_6 rfl (zk_rIw (Option.some.inj h))
set_option maxRecDepth 100000 in
set_option maxHeartbeats 4000000 in
theorem fMd_blows_16_ok {d : Nat} (hd : 1 ≤ d) (mem : zkM) (a1 : Int32) (a2 : Int32) (a3 : Int32) (z : zkM) (h : fMd_blows_16 mem a1 a2 a3 = some z) : zk_X zSM d zY_X12_blows [.ref 16, .int a1, .int a2, .int a3] mem (none, z) := by
  unfold fMd_blows_16 at h
  refine zk_meet (n := 0) (lv := [some (.ref 16), some (.int a1), some (.int a2), some (.int a3)]) zpn_X12 rfl (Nat.le_of_ble_eq_true rfl) ?_
  refine zk_aload_n (i := 0) dX12_blows_0 rfl rfl ?_
  refine zk_iload_n (i := 1) dX12_blows_1 rfl rfl ?_
  refine zk_iconst dX12_blows_2 zki_2 ?_
  refine zk_iadd dX12_blows_3 ?_
  obtain ⟨b1, h⟩ := zk_gd h
  refine zk_iaload 16 36 dX12_blows_4 (Nat.le_of_ble_eq_true rfl) rfl (zk_inb_in b1) ?_
  refine zk_if_ne 73 dX12_blows_5 rfl (fun c20 => ?_) (fun c20 => ?_)
  · have h := zk_if _ h c20
    exact zk_vreturn dX12_blows_73 rfl (zk_rVw (Option.some.inj h))
  · have h := zk_it _ h c20
    refine zk_aload_n (i := 0) dX12_blows_8 rfl rfl ?_
    refine zk_iload_n (i := 1) dX12_blows_9 rfl rfl ?_
    obtain ⟨b2, h⟩ := zk_gd h
    refine zk_iaload 16 36 dX12_blows_10 (Nat.le_of_ble_eq_true rfl) rfl (zk_inb_in b2) ?_
    refine zk_if_ne 33 dX12_blows_11 rfl (fun c19 => ?_) (fun c19 => ?_)
    · have h := zk_if _ h c19
      refine zk_aload_n (i := 0) dX12_blows_33 rfl rfl ?_
      refine zk_iload_n (i := 1) dX12_blows_34 rfl rfl ?_
      refine zk_iconst dX12_blows_35 zki_1 ?_
      refine zk_iadd dX12_blows_36 ?_
      refine zk_dup2 dX12_blows_37 rfl rfl ?_
      obtain ⟨b3, h⟩ := zk_gd h
      refine zk_iaload 16 36 dX12_blows_38 (Nat.le_of_ble_eq_true rfl) rfl (zk_inb_in b3) ?_
      refine zk_aload_n (i := 0) dX12_blows_39 rfl rfl ?_
      refine zk_iload_n (i := 1) dX12_blows_40 rfl rfl ?_
      obtain ⟨b4, h⟩ := zk_gd h
      refine zk_iaload 16 36 dX12_blows_41 (Nat.le_of_ble_eq_true rfl) rfl (zk_inb_in b4) ?_
      refine zk_iload_n (i := 2) dX12_blows_42 rfl rfl ?_
      refine zk_iload_n (i := 3) dX12_blows_43 rfl rfl ?_
      refine zk_callSi zY_X12_wears [_, _, _] dX12_blows_44 zl_X12_wears zc_X12_164 (fMd_wears_ok (d := 0) (Nat.le_refl _) mem _ _ _ _ rfl) (Nat.lt_of_lt_of_le (by decide) hd) (Nat.le_of_ble_eq_true rfl) ?_
      refine zk_iadd dX12_blows_47 ?_
      obtain ⟨b5, h⟩ := zk_gd h
      obtain ⟨m6, em6, h⟩ := zk_lt h
      refine zk_iastore' 16 36 dX12_blows_48 (Nat.le_of_ble_eq_true rfl) rfl (zk_inb_in b5) em6 ?_
      refine zk_aload_n (i := 0) dX12_blows_49 rfl rfl ?_
      refine zk_iload_n (i := 1) dX12_blows_50 rfl rfl ?_
      refine zk_iconst dX12_blows_51 zki_2 ?_
      refine zk_iadd dX12_blows_52 ?_
      refine zk_aload_n (i := 0) dX12_blows_53 rfl rfl ?_
      refine zk_iload_n (i := 1) dX12_blows_54 rfl rfl ?_
      refine zk_iconst dX12_blows_55 zki_1 ?_
      refine zk_iadd dX12_blows_56 ?_
      obtain ⟨b7, h⟩ := zk_gd h
      refine zk_iaload 16 36 dX12_blows_57 (Nat.le_of_ble_eq_true rfl) rfl (zk_inb_in b7) ?_
      refine zk_aload_n (i := 0) dX12_blows_58 rfl rfl ?_
      refine zk_iload_n (i := 1) dX12_blows_59 rfl rfl ?_
      obtain ⟨b8, h⟩ := zk_gd h
      refine zk_iaload 16 36 dX12_blows_60 (Nat.le_of_ble_eq_true rfl) rfl (zk_inb_in b8) ?_
      refine zk_callSi zY_X12_givesAt [_] dX12_blows_61 zl_X12_givesAt zc_X12_168 (fMd_givesAt_ok (d := 0) (Nat.le_refl _) m6 _ _ rfl) (Nat.lt_of_lt_of_le (by decide) hd) (Nat.le_of_ble_eq_true rfl) ?_
      refine zk_icmp_lt 71 dX12_blows_64 rfl (fun c13 => ?_) (fun c13 => ?_)
      · have h := zk_it _ h c13
        refine zk_iconst dX12_blows_71 zki_0 ?_
        obtain ⟨b9, h⟩ := zk_gd h
        obtain ⟨m10, em10, h⟩ := zk_lt h
        refine zk_iastore' 16 36 dX12_blows_72 (Nat.le_of_ble_eq_true rfl) rfl (zk_inb_in b9) em10 ?_
        exact zk_vreturn dX12_blows_73 rfl (zk_rVw (Option.some.inj h))
      · have h := zk_if _ h c13
        refine zk_iconst dX12_blows_67 zki_1 ?_
        refine zk_goto 72 dX12_blows_68 rfl ?_
        obtain ⟨b11, h⟩ := zk_gd h
        obtain ⟨m12, em12, h⟩ := zk_lt h
        refine zk_iastore' 16 36 dX12_blows_72 (Nat.le_of_ble_eq_true rfl) rfl (zk_inb_in b11) em12 ?_
        exact zk_vreturn dX12_blows_73 rfl (zk_rVw (Option.some.inj h))
    · have h := zk_it _ h c19
      refine zk_aload_n (i := 0) dX12_blows_14 rfl rfl ?_
      refine zk_iload_n (i := 1) dX12_blows_15 rfl rfl ?_
      refine zk_iconst dX12_blows_16 zki_2 ?_
      refine zk_iadd dX12_blows_17 ?_
      refine zk_iload_n (i := 3) dX12_blows_18 rfl rfl ?_
      refine zk_bipush dX12_blows_19 zkb_6 ?_
      refine zk_icmp_le 28 dX12_blows_21 rfl (fun c18 => ?_) (fun c18 => ?_)
      · have h := zk_it _ h c18
        refine zk_iconst dX12_blows_28 zki_0 ?_
        obtain ⟨b14, h⟩ := zk_gd h
        obtain ⟨m15, em15, h⟩ := zk_lt h
        refine zk_iastore' 16 36 dX12_blows_29 (Nat.le_of_ble_eq_true rfl) rfl (zk_inb_in b14) em15 ?_
        refine zk_goto 73 dX12_blows_30 rfl ?_
        exact zk_vreturn dX12_blows_73 rfl (zk_rVw (Option.some.inj h))
      · have h := zk_if _ h c18
        refine zk_iconst dX12_blows_24 zki_1 ?_
        refine zk_goto 29 dX12_blows_25 rfl ?_
        obtain ⟨b16, h⟩ := zk_gd h
        obtain ⟨m17, em17, h⟩ := zk_lt h
        refine zk_iastore' 16 36 dX12_blows_29 (Nat.le_of_ble_eq_true rfl) rfl (zk_inb_in b16) em17 ?_
        refine zk_goto 73 dX12_blows_30 rfl ?_
        exact zk_vreturn dX12_blows_73 rfl (zk_rVw (Option.some.inj h))
set_option maxRecDepth 100000 in
set_option maxHeartbeats 4000000 in
theorem fMd_blowsAll_16_L3_ok {d : Nat} {Z : zkZ} (hd : 2 ≤ d)  : ∀ (n : Nat) (mem : zkM) (x2 : Int32) (x3 : Int32) (x4 : Int32) (z : zkM), fMd_blowsAll_16_L3 n mem x2 x3 x4 = some z → zk_J zSM d zY_X12_blowsAll Z 37 [none, none, none, none, none] [] z → zk_J zSM d zY_X12_blowsAll Z 3 [some (.ref 0), some (.ref 16), some (.int x2), some (.int x3), some (.int x4)] [] mem := by
  intro n
  induction n with
  | zero => intro mem x2 x3 x4 z h; cases h
  | succ n ih =>
    intro mem x2 x3 x4 z h he
    rw [fMd_blowsAll_16_L3] at h
    refine zk_iload dX12_blowsAll_3 rfl ?_
    refine zk_iconst dX12_blowsAll_5 zki_2 ?_
    refine zk_aload_n (i := 0) dX12_blowsAll_6 rfl rfl ?_
    refine zk_getI 0 12 2 dX12_blowsAll_7 zf_X12_77 (Nat.le_of_ble_eq_true rfl) rfl rfl ?_
    refine zk_imul dX12_blowsAll_10 ?_
    refine zk_icmp_ge 37 dX12_blowsAll_11 rfl (fun c3 => ?_) (fun c3 => ?_)
    · have h := zk_it _ h c3
      cases h
      exact zk_weak (zk_leN (zk_leN (zk_leN (zk_leN (zk_leN zk_leE))))) he
    · have h := zk_if _ h c3
      refine zk_aload_n (i := 1) dX12_blowsAll_14 rfl rfl ?_
      refine zk_iload_n (i := 2) dX12_blowsAll_15 rfl rfl ?_
      refine zk_iconst dX12_blowsAll_16 zki_3 ?_
      refine zk_iload dX12_blowsAll_17 rfl ?_
      refine zk_imul dX12_blowsAll_19 ?_
      refine zk_iadd dX12_blowsAll_20 ?_
      refine zk_aload_n (i := 0) dX12_blowsAll_21 rfl rfl ?_
      refine zk_iload dX12_blowsAll_22 rfl ?_
      obtain ⟨q1, hq1, h⟩ := zk_ob h
      refine zk_callVi zY_X12_differ 0 12 [_] dX12_blowsAll_24 zl_X12_differ zc_X12_171 zk_ok12 (Nat.le_of_ble_eq_true rfl) rfl (fMd_differ_ok (d := 0) (Nat.le_refl _) mem _ _ hq1) (Nat.lt_of_lt_of_le (by decide) hd) (Nat.le_of_ble_eq_true rfl) ?_
      refine zk_iload_n (i := 3) dX12_blowsAll_27 rfl rfl ?_
      obtain ⟨q2, hq2, h⟩ := zk_ob h
      refine zk_callSv zY_X12_blows [_, _, _, _] dX12_blowsAll_28 zl_X12_blows zc_X12_174 (fMd_blows_16_ok (d := 1) (Nat.le_refl _) mem _ _ _ _ hq2) (Nat.lt_of_lt_of_le (by decide) hd) (Nat.le_of_ble_eq_true rfl) ?_
      refine zk_iinc2 dX12_blowsAll_31 rfl zki_1 (Nat.le_of_ble_eq_true rfl) rfl ?_
      refine zk_goto 3 dX12_blowsAll_34 rfl ?_
      exact zk_weak (zk_leS (zk_leS (zk_leS (zk_leS (zk_leS zk_leE))))) (ih q2 x2 x3 (x4 + (1 : Int32)) _ h he)
set_option maxRecDepth 100000 in
set_option maxHeartbeats 4000000 in
theorem fMd_blowsAll_16_ok {d : Nat} (hd : 2 ≤ d) (mem : zkM) (a2 : Int32) (a3 : Int32) (z : zkM) (h : fMd_blowsAll_16 mem a2 a3 = some z) : zk_X zSM d zY_X12_blowsAll [.ref 0, .ref 16, .int a2, .int a3] mem (none, z) := by
  unfold fMd_blowsAll_16 at h
  refine zk_meet (n := 1) (lv := [some (.ref 0), some (.ref 16), some (.int a2), some (.int a3), none]) zpn_X12 rfl (Nat.le_of_ble_eq_true rfl) ?_
  refine zk_iconst dX12_blowsAll_0 zki_0 ?_
  refine zk_istore dX12_blowsAll_1 (Nat.le_of_ble_eq_true rfl) rfl ?_
  obtain ⟨q1, hq1, h⟩ := zk_ob h
  refine zk_weak (zk_leS (zk_leS (zk_leS (zk_leS (zk_leS zk_leE))))) (fMd_blowsAll_16_L3_ok hd 500 mem a2 a3 (0 : Int32) _ hq1 ?_)
  exact zk_vreturn dX12_blowsAll_37 rfl (zk_rVw (Option.some.inj h))
set_option maxRecDepth 100000 in
set_option maxHeartbeats 4000000 in
theorem fMd_firstNew_L12_ok {d : Nat} {Z : zkZ} (hd : 0 ≤ d)  : ∀ (n : Nat) (mem : zkM) (x1 : Int32) (x2 : Int32) (z : Int32), fMd_firstNew_L12 n mem x1 x2 = some z → zk_J zSM d zY_X12_firstNew Z 54 [none, some (.int z), none] [] mem → zk_J zSM d zY_X12_firstNew Z 12 [some (.ref 0), some (.int x1), some (.int x2)] [] mem := by
  intro n
  induction n with
  | zero => intro mem x1 x2 z h; cases h
  | succ n ih =>
    intro mem x1 x2 z h he
    rw [fMd_firstNew_L12] at h
    refine zk_iload_n (i := 2) dX12_firstNew_12 rfl rfl ?_
    refine zk_if_lt 54 dX12_firstNew_13 rfl (fun c5 => ?_) (fun c5 => ?_)
    · have h := zk_it _ h c5
      cases h
      exact zk_weak (zk_leN (zk_leS (zk_leN zk_leE))) he
    · have h := zk_if _ h c5
      refine zk_aload_n (i := 0) dX12_firstNew_16 rfl rfl ?_
      refine zk_getR 0 12 30 dX12_firstNew_17 zf_X12_56 (Nat.le_of_ble_eq_true rfl) rfl rfl ?_
      refine zk_iconst dX12_firstNew_20 zki_3 ?_
      refine zk_iload_n (i := 2) dX12_firstNew_21 rfl rfl ?_
      refine zk_imul dX12_firstNew_22 ?_
      refine zk_iconst dX12_firstNew_23 zki_2 ?_
      refine zk_iadd dX12_firstNew_24 ?_
      obtain ⟨b1, h⟩ := zk_gd h
      refine zk_iaload 16 36 dX12_firstNew_25 (Nat.le_of_ble_eq_true rfl) rfl (zk_inb_in b1) ?_
      refine zk_aload_n (i := 0) dX12_firstNew_26 rfl rfl ?_
      refine zk_getR 0 12 6 dX12_firstNew_27 zf_X12_19 (Nat.le_of_ble_eq_true rfl) rfl rfl ?_
      refine zk_bipush dX12_firstNew_30 zkb_6 ?_
      refine zk_iconst dX12_firstNew_32 zki_3 ?_
      refine zk_iload_n (i := 2) dX12_firstNew_33 rfl rfl ?_
      refine zk_imul dX12_firstNew_34 ?_
      refine zk_iadd dX12_firstNew_35 ?_
      refine zk_iconst dX12_firstNew_36 zki_2 ?_
      refine zk_iadd dX12_firstNew_37 ?_
      obtain ⟨b2, h⟩ := zk_gd h
      refine zk_iaload 4 42 dX12_firstNew_38 (Nat.le_of_ble_eq_true rfl) rfl (zk_inb_in b2) ?_
      obtain ⟨q3, hq3, h⟩ := zk_lt h
      have Jq3 : zk_J zSM d zY_X12_firstNew Z 47 [some (.ref 0), none, some (.int x2)] [.int q3] mem := by
        refine zk_istore_n (i := 1) dX12_firstNew_47 rfl (Nat.le_of_ble_eq_true rfl) rfl ?_
        refine zk_iinc2 dX12_firstNew_48 rfl zki_m1 (Nat.le_of_ble_eq_true rfl) rfl ?_
        refine zk_goto 12 dX12_firstNew_51 rfl ?_
        exact zk_weak (zk_leS (zk_leS (zk_leS zk_leE))) (ih mem q3 (x2 + (-1 : Int32)) _ h he)
      have h := hq3
      clear hq3
      refine zk_icmp_le 46 dX12_firstNew_39 rfl (fun c4 => ?_) (fun c4 => ?_)
      · have h := zk_it _ h c4
        refine zk_iload_n (i := 1) dX12_firstNew_46 rfl rfl ?_
        subst h
        exact zk_weak (zk_leS (zk_leN (zk_leS zk_leE))) Jq3
      · have h := zk_if _ h c4
        refine zk_iload_n (i := 2) dX12_firstNew_42 rfl rfl ?_
        refine zk_goto 47 dX12_firstNew_43 rfl ?_
        subst h
        exact zk_weak (zk_leS (zk_leN (zk_leS zk_leE))) Jq3
set_option maxRecDepth 100000 in
set_option maxHeartbeats 4000000 in
theorem fMd_firstNew_ok {d : Nat} (hd : 0 ≤ d) (mem : zkM) (z : Int32) (h : fMd_firstNew mem = some z) : zk_X zSM d zY_X12_firstNew [.ref 0] mem (some (.int z), mem) := by
  unfold fMd_firstNew at h
  refine zk_meet (n := 2) (lv := [some (.ref 0), none, none]) zpn_X12 rfl (Nat.le_of_ble_eq_true rfl) ?_
  refine zk_bipush dX12_firstNew_0 zkb_m9 ?_
  refine zk_istore_n (i := 1) dX12_firstNew_2 rfl (Nat.le_of_ble_eq_true rfl) rfl ?_
  refine zk_iconst dX12_firstNew_3 zki_2 ?_
  refine zk_aload_n (i := 0) dX12_firstNew_4 rfl rfl ?_
  refine zk_getI 0 12 2 dX12_firstNew_5 zf_X12_77 (Nat.le_of_ble_eq_true rfl) rfl rfl ?_
  refine zk_imul dX12_firstNew_8 ?_
  refine zk_iconst dX12_firstNew_9 zki_1 ?_
  refine zk_isub dX12_firstNew_10 ?_
  obtain ⟨v1, ev1, h⟩ := zk_lt h
  refine zk_istore_n' (i := 2) dX12_firstNew_11 rfl ev1 (Nat.le_of_ble_eq_true rfl) rfl ?_
  obtain ⟨q2, hq2, h⟩ := zk_ob h
  refine zk_weak (zk_leS (zk_leS (zk_leS zk_leE))) (fMd_firstNew_L12_ok hd 500 mem (-9 : Int32) v1 _ hq2 ?_)
  refine zk_iload_n (i := 1) dX12_firstNew_54 rfl rfl ?_
  exact zk_ireturn dX12_firstNew_55 rfl (zk_rI (Option.some.inj h))
set_option maxRecDepth 100000 in
set_option maxHeartbeats 4000000 in
theorem fMd_firstOut_L24_ok {d : Nat} {r : Option Value × zkM} (hd : 3 ≤ d)  : ∀ (n : Nat) (mem : zkM) (x1 : Int32) (x2 : Int32) (x3 : Int32) (z : (Int32 × zkM) ⊕ (zkM)), fMd_firstOut_L24 n mem x1 x2 x3 = some z → (∀ y, z = .inl y → (some (.int y.1), y.2) = r) → (∀ z', z = .inr z' → zk_J zSM d zY_X12_firstOut (zk_R zSM r) 68 [none, none, none, none] [] z') → zk_J zSM d zY_X12_firstOut (zk_R zSM r) 24 [some (.ref 0), some (.int x1), some (.int x2), some (.int x3)] [] mem := by
  intro n
  induction n with
  | zero => intro mem x1 x2 x3 z h; cases h
  | succ n ih =>
    intro mem x1 x2 x3 z h hr he
    rw [fMd_firstOut_L24] at h
    refine zk_iload_n (i := 3) dX12_firstOut_24 rfl rfl ?_
    refine zk_bipush dX12_firstOut_25 zkb_60 ?_
    refine zk_icmp_gt 68 dX12_firstOut_27 rfl (fun c6 => ?_) (fun c6 => ?_)
    · have h := zk_it _ h c6
      exact zk_weak (zk_leN (zk_leN (zk_leN (zk_leN zk_leE)))) (he _ (Option.some.inj h).symm)
    · have h := zk_if _ h c6
      refine zk_aload_n (i := 0) dX12_firstOut_30 rfl rfl ?_
      refine zk_aload_n (i := 0) dX12_firstOut_31 rfl rfl ?_
      refine zk_getR 0 12 30 dX12_firstOut_32 zf_X12_56 (Nat.le_of_ble_eq_true rfl) rfl rfl ?_
      refine zk_iconst dX12_firstOut_35 zki_0 ?_
      refine zk_iload_n (i := 1) dX12_firstOut_36 rfl rfl ?_
      obtain ⟨q1, hq1, h⟩ := zk_ob h
      refine zk_callVv zY_X12_blowsAll 0 12 [_, _, _] dX12_firstOut_37 zl_X12_blowsAll zc_X12_208 zk_ok12 (Nat.le_of_ble_eq_true rfl) rfl (fMd_blowsAll_16_ok (d := 2) (Nat.le_refl _) mem _ _ _ hq1) (Nat.lt_of_lt_of_le (by decide) hd) (Nat.le_of_ble_eq_true rfl) ?_
      refine zk_aload_n (i := 0) dX12_firstOut_40 rfl rfl ?_
      obtain ⟨q2, hq2, h⟩ := zk_ob h
      refine zk_callVi zY_X12_firstNew 0 12 [] dX12_firstOut_41 zl_X12_firstNew zc_X12_237 zk_ok12 (Nat.le_of_ble_eq_true rfl) rfl (fMd_firstNew_ok (d := 0) (Nat.le_refl _) q1  _ hq2) (Nat.lt_of_lt_of_le (by decide) hd) (Nat.le_of_ble_eq_true rfl) ?_
      refine zk_bipush dX12_firstOut_44 zkb_m9 ?_
      refine zk_icmp_eq 62 dX12_firstOut_46 rfl (fun c5 => ?_) (fun c5 => ?_)
      · have h := zk_it _ h c5
        refine zk_iinc2 dX12_firstOut_62 rfl zki_1 (Nat.le_of_ble_eq_true rfl) rfl ?_
        refine zk_goto 24 dX12_firstOut_65 rfl ?_
        exact zk_weak (zk_leS (zk_leS (zk_leS (zk_leS zk_leE)))) (ih q1 x1 x2 (x3 + (1 : Int32)) _ h hr he)
      · have h := zk_if _ h c5
        refine zk_iload_n (i := 2) dX12_firstOut_49 rfl rfl ?_
        refine zk_if_ne 57 dX12_firstOut_50 rfl (fun c4 => ?_) (fun c4 => ?_)
        · have h := zk_if _ h c4
          refine zk_aload_n (i := 0) dX12_firstOut_57 rfl rfl ?_
          obtain ⟨q3, hq3, h⟩ := zk_ob h
          refine zk_callVi zY_X12_firstNew 0 12 [] dX12_firstOut_58 zl_X12_firstNew zc_X12_237 zk_ok12 (Nat.le_of_ble_eq_true rfl) rfl (fMd_firstNew_ok (d := 0) (Nat.le_refl _) q1  _ hq3) (Nat.lt_of_lt_of_le (by decide) hd) (Nat.le_of_ble_eq_true rfl) ?_
          exact zk_ireturn dX12_firstOut_61 rfl ((zk_rIw rfl).trans (hr _ (Option.some.inj h).symm))
        · have h := zk_it _ h c4
          refine zk_iload_n (i := 3) dX12_firstOut_53 rfl rfl ?_
          refine zk_goto 61 dX12_firstOut_54 rfl ?_
          exact zk_ireturn dX12_firstOut_61 rfl ((zk_rIw rfl).trans (hr _ (Option.some.inj h).symm))
set_option maxRecDepth 100000 in
set_option maxHeartbeats 4000000 in
theorem fMd_firstOut_ok {d : Nat} (hd : 3 ≤ d) (mem : zkM) (a1 : Int32) (a2 : Int32) (z : Int32 × zkM) (h : fMd_firstOut mem a1 a2 = some z) : zk_X zSM d zY_X12_firstOut [.ref 0, .int a1, .int a2] mem (some (.int z.1), z.2) := by
  unfold fMd_firstOut at h
  refine zk_meet (n := 1) (lv := [some (.ref 0), some (.int a1), some (.int a2), none]) zpn_X12 rfl (Nat.le_of_ble_eq_true rfl) ?_
  refine zk_iload_n (i := 1) dX12_firstOut_0 rfl rfl ?_
  refine zk_callSi zY_X12_isForce [_] dX12_firstOut_1 zl_X12_isForce zc_X12_205 (fMd_isForce_ok (d := 1) (Nat.le_refl _) mem _ _ rfl) (Nat.lt_of_lt_of_le (by decide) hd) (Nat.le_of_ble_eq_true rfl) ?_
  refine zk_if_eq 16 dX12_firstOut_4 rfl (fun c5 => ?_) (fun c5 => ?_)
  · have h := zk_it _ h c5
    refine zk_iconst dX12_firstOut_16 zki_m1 ?_
    exact zk_ireturn dX12_firstOut_17 rfl (zk_rIw (Option.some.inj h))
  · have h := zk_if _ h c5
    refine zk_iload_n (i := 2) dX12_firstOut_7 rfl rfl ?_
    refine zk_iconst dX12_firstOut_8 zki_0 ?_
    refine zk_iconst dX12_firstOut_9 zki_1 ?_
    refine zk_callSi zY_X12_in [_, _, _] dX12_firstOut_10 zl_X12_in zc_X12_73 (fMd_in_ok (d := 0) (Nat.le_refl _) mem _ _ _ _ rfl) (Nat.lt_of_lt_of_le (by decide) hd) (Nat.le_of_ble_eq_true rfl) ?_
    refine zk_if_ne 18 dX12_firstOut_13 rfl (fun c4 => ?_) (fun c4 => ?_)
    · have h := zk_if _ h c4
      refine zk_aload_n (i := 0) dX12_firstOut_18 rfl rfl ?_
      obtain ⟨q1, hq1, h⟩ := zk_ob h
      refine zk_callVv zY_X12_layEnds 0 12 [] dX12_firstOut_19 zl_X12_layEnds zc_X12_195 zk_ok12 (Nat.le_of_ble_eq_true rfl) rfl (fMd_layEnds_ok (d := 0) (Nat.le_refl _) mem  _ hq1) (Nat.lt_of_lt_of_le (by decide) hd) (Nat.le_of_ble_eq_true rfl) ?_
      refine zk_iconst dX12_firstOut_22 zki_1 ?_
      refine zk_istore_n (i := 3) dX12_firstOut_23 rfl (Nat.le_of_ble_eq_true rfl) rfl ?_
      obtain ⟨q2, hq2, h⟩ := zk_ob h
      refine zk_weak (zk_leS (zk_leS (zk_leS (zk_leS zk_leE)))) (fMd_firstOut_L24_ok hd 500 q1 a1 a2 (1 : Int32) _ hq2 (fun y hy => ?_) (fun q3 hy => ?_))
      · subst hy; have h := zk_el h; cases h; rfl
      subst hy
      have h := zk_er h
      refine zk_bipush dX12_firstOut_68 zkb_m9 ?_
      exact zk_ireturn dX12_firstOut_70 rfl (zk_rIw (Option.some.inj h))
    · have h := zk_it _ h c4
      refine zk_iconst dX12_firstOut_16 zki_m1 ?_
      exact zk_ireturn dX12_firstOut_17 rfl (zk_rIw (Option.some.inj h))
set_option maxRecDepth 100000 in
set_option maxHeartbeats 4000000 in
theorem fMd_holdsFor_L19_ok {d : Nat} {r : Option Value × zkM} (hd : 3 ≤ d)  : ∀ (n : Nat) (mem : zkM) (x1 : Int32) (x2 : Int32) (z : (Int32 × zkM) ⊕ (zkM)), fMd_holdsFor_L19 n mem x1 x2 = some z → (∀ y, z = .inl y → (some (.int y.1), y.2) = r) → (∀ z', z = .inr z' → zk_J zSM d zY_X12_holdsFor (zk_R zSM r) 50 [none, none, none] [] z') → zk_J zSM d zY_X12_holdsFor (zk_R zSM r) 19 [some (.ref 0), some (.int x1), some (.int x2)] [] mem := by
  intro n
  induction n with
  | zero => intro mem x1 x2 z h; cases h
  | succ n ih =>
    intro mem x1 x2 z h hr he
    rw [fMd_holdsFor_L19] at h
    refine zk_iload_n (i := 2) dX12_holdsFor_19 rfl rfl ?_
    refine zk_bipush dX12_holdsFor_20 zkb_60 ?_
    refine zk_icmp_gt 50 dX12_holdsFor_22 rfl (fun c4 => ?_) (fun c4 => ?_)
    · have h := zk_it _ h c4
      exact zk_weak (zk_leN (zk_leN (zk_leN zk_leE))) (he _ (Option.some.inj h).symm)
    · have h := zk_if _ h c4
      refine zk_aload_n (i := 0) dX12_holdsFor_25 rfl rfl ?_
      obtain ⟨q1, hq1, h⟩ := zk_ob h
      refine zk_callVi zY_X12_holdsAll 0 12 [] dX12_holdsFor_26 zl_X12_holdsAll zc_X12_198 zk_ok12 (Nat.le_of_ble_eq_true rfl) rfl (fMd_holdsAll_ok (d := 1) (Nat.le_refl _) mem  _ hq1) (Nat.lt_of_lt_of_le (by decide) hd) (Nat.le_of_ble_eq_true rfl) ?_
      refine zk_if_ne 34 dX12_holdsFor_29 rfl (fun c3 => ?_) (fun c3 => ?_)
      · have h := zk_if _ h c3
        refine zk_aload_n (i := 0) dX12_holdsFor_34 rfl rfl ?_
        refine zk_aload_n (i := 0) dX12_holdsFor_35 rfl rfl ?_
        refine zk_getR 0 12 30 dX12_holdsFor_36 zf_X12_56 (Nat.le_of_ble_eq_true rfl) rfl rfl ?_
        refine zk_iconst dX12_holdsFor_39 zki_0 ?_
        refine zk_iload_n (i := 1) dX12_holdsFor_40 rfl rfl ?_
        obtain ⟨q2, hq2, h⟩ := zk_ob h
        refine zk_callVv zY_X12_blowsAll 0 12 [_, _, _] dX12_holdsFor_41 zl_X12_blowsAll zc_X12_208 zk_ok12 (Nat.le_of_ble_eq_true rfl) rfl (fMd_blowsAll_16_ok (d := 2) (Nat.le_refl _) mem _ _ _ hq2) (Nat.lt_of_lt_of_le (by decide) hd) (Nat.le_of_ble_eq_true rfl) ?_
        refine zk_iinc2 dX12_holdsFor_44 rfl zki_1 (Nat.le_of_ble_eq_true rfl) rfl ?_
        refine zk_goto 19 dX12_holdsFor_47 rfl ?_
        exact zk_weak (zk_leS (zk_leS (zk_leS zk_leE))) (ih q2 x1 (x2 + (1 : Int32)) _ h hr he)
      · have h := zk_it _ h c3
        refine zk_iload_n (i := 2) dX12_holdsFor_32 rfl rfl ?_
        exact zk_ireturn dX12_holdsFor_33 rfl ((zk_rIw rfl).trans (hr _ (Option.some.inj h).symm))
set_option maxRecDepth 100000 in
set_option maxHeartbeats 4000000 in
theorem fMd_holdsFor_ok {d : Nat} (hd : 3 ≤ d) (mem : zkM) (a1 : Int32) (z : Int32 × zkM) (h : fMd_holdsFor mem a1 = some z) : zk_X zSM d zY_X12_holdsFor [.ref 0, .int a1] mem (some (.int z.1), z.2) := by
  unfold fMd_holdsFor at h
  refine zk_meet (n := 1) (lv := [some (.ref 0), some (.int a1), none]) zpn_X12 rfl (Nat.le_of_ble_eq_true rfl) ?_
  refine zk_iload_n (i := 1) dX12_holdsFor_0 rfl rfl ?_
  refine zk_callSi zY_X12_isForce [_] dX12_holdsFor_1 zl_X12_isForce zc_X12_205 (fMd_isForce_ok (d := 1) (Nat.le_refl _) mem _ _ rfl) (Nat.lt_of_lt_of_le (by decide) hd) (Nat.le_of_ble_eq_true rfl) ?_
  refine zk_if_ne 9 dX12_holdsFor_4 rfl (fun c5 => ?_) (fun c5 => ?_)
  · have h := zk_if _ h c5
    refine zk_aload_n (i := 0) dX12_holdsFor_9 rfl rfl ?_
    obtain ⟨q1, hq1, h⟩ := zk_ob h
    refine zk_callVv zY_X12_layLoadsNow 0 12 [] dX12_holdsFor_10 zl_X12_layLoadsNow zc_X12_182 zk_ok12 (Nat.le_of_ble_eq_true rfl) rfl (fMd_layLoadsNow_ok (d := 1) (Nat.le_refl _) mem  _ hq1) (Nat.lt_of_lt_of_le (by decide) hd) (Nat.le_of_ble_eq_true rfl) ?_
    refine zk_aload_n (i := 0) dX12_holdsFor_13 rfl rfl ?_
    obtain ⟨q2, hq2, h⟩ := zk_ob h
    refine zk_callVv zY_X12_layEnds 0 12 [] dX12_holdsFor_14 zl_X12_layEnds zc_X12_195 zk_ok12 (Nat.le_of_ble_eq_true rfl) rfl (fMd_layEnds_ok (d := 0) (Nat.le_refl _) q1  _ hq2) (Nat.lt_of_lt_of_le (by decide) hd) (Nat.le_of_ble_eq_true rfl) ?_
    refine zk_iconst dX12_holdsFor_17 zki_0 ?_
    refine zk_istore_n (i := 2) dX12_holdsFor_18 rfl (Nat.le_of_ble_eq_true rfl) rfl ?_
    obtain ⟨q3, hq3, h⟩ := zk_ob h
    refine zk_weak (zk_leS (zk_leS (zk_leS zk_leE))) (fMd_holdsFor_L19_ok hd 500 q2 a1 (0 : Int32) _ hq3 (fun y hy => ?_) (fun q4 hy => ?_))
    · subst hy; have h := zk_el h; cases h; rfl
    subst hy
    have h := zk_er h
    refine zk_bipush dX12_holdsFor_50 zkb_m9 ?_
    exact zk_ireturn dX12_holdsFor_52 rfl (zk_rIw (Option.some.inj h))
  · have h := zk_it _ h c5
    refine zk_iconst dX12_holdsFor_7 zki_m1 ?_
    exact zk_ireturn dX12_holdsFor_8 rfl (zk_rIw (Option.some.inj h))
set_option maxRecDepth 100000 in
set_option maxHeartbeats 4000000 in
theorem fMd_outSet_L4_ok {d : Nat} {Z : zkZ} (hd : 0 ≤ d)  : ∀ (n : Nat) (mem : zkM) (x1 : Int32) (x2 : Int32) (z : Int32), fMd_outSet_L4 n mem x1 x2 = some z → zk_J zSM d zY_X12_outSet Z 56 [none, some (.int z), none] [] mem → zk_J zSM d zY_X12_outSet Z 4 [some (.ref 0), some (.int x1), some (.int x2)] [] mem := by
  intro n
  induction n with
  | zero => intro mem x1 x2 z h; cases h
  | succ n ih =>
    intro mem x1 x2 z h he
    rw [fMd_outSet_L4] at h
    refine zk_iload_n (i := 2) dX12_outSet_4 rfl rfl ?_
    refine zk_iconst dX12_outSet_5 zki_2 ?_
    refine zk_aload_n (i := 0) dX12_outSet_6 rfl rfl ?_
    refine zk_getI 0 12 2 dX12_outSet_7 zf_X12_77 (Nat.le_of_ble_eq_true rfl) rfl rfl ?_
    refine zk_imul dX12_outSet_10 ?_
    refine zk_icmp_ge 56 dX12_outSet_11 rfl (fun c6 => ?_) (fun c6 => ?_)
    · have h := zk_it _ h c6
      cases h
      exact zk_weak (zk_leN (zk_leS (zk_leN zk_leE))) he
    · have h := zk_if _ h c6
      refine zk_iload_n (i := 1) dX12_outSet_14 rfl rfl ?_
      refine zk_aload_n (i := 0) dX12_outSet_15 rfl rfl ?_
      refine zk_getR 0 12 30 dX12_outSet_16 zf_X12_56 (Nat.le_of_ble_eq_true rfl) rfl rfl ?_
      refine zk_iconst dX12_outSet_19 zki_3 ?_
      refine zk_iload_n (i := 2) dX12_outSet_20 rfl rfl ?_
      refine zk_imul dX12_outSet_21 ?_
      refine zk_iconst dX12_outSet_22 zki_2 ?_
      refine zk_iadd dX12_outSet_23 ?_
      obtain ⟨b1, h⟩ := zk_gd h
      refine zk_iaload 16 36 dX12_outSet_24 (Nat.le_of_ble_eq_true rfl) rfl (zk_inb_in b1) ?_
      refine zk_aload_n (i := 0) dX12_outSet_25 rfl rfl ?_
      refine zk_getR 0 12 6 dX12_outSet_26 zf_X12_19 (Nat.le_of_ble_eq_true rfl) rfl rfl ?_
      refine zk_bipush dX12_outSet_29 zkb_6 ?_
      refine zk_iconst dX12_outSet_31 zki_3 ?_
      refine zk_iload_n (i := 2) dX12_outSet_32 rfl rfl ?_
      refine zk_imul dX12_outSet_33 ?_
      refine zk_iadd dX12_outSet_34 ?_
      refine zk_iconst dX12_outSet_35 zki_2 ?_
      refine zk_iadd dX12_outSet_36 ?_
      obtain ⟨b2, h⟩ := zk_gd h
      refine zk_iaload 4 42 dX12_outSet_37 (Nat.le_of_ble_eq_true rfl) rfl (zk_inb_in b2) ?_
      obtain ⟨q3, hq3, h⟩ := zk_lt h
      have Jq3 : zk_J zSM d zY_X12_outSet Z 48 [some (.ref 0), none, some (.int x2)] [.int q3, .int x1] mem := by
        refine zk_ior dX12_outSet_48 ?_
        obtain ⟨v5, ev5, h⟩ := zk_lt h
        refine zk_istore_n' (i := 1) dX12_outSet_49 rfl ev5 (Nat.le_of_ble_eq_true rfl) rfl ?_
        refine zk_iinc2 dX12_outSet_50 rfl zki_1 (Nat.le_of_ble_eq_true rfl) rfl ?_
        refine zk_goto 4 dX12_outSet_53 rfl ?_
        exact zk_weak (zk_leS (zk_leS (zk_leS zk_leE))) (ih mem v5 (x2 + (1 : Int32)) _ h he)
      have h := hq3
      clear hq3
      refine zk_icmp_le 47 dX12_outSet_38 rfl (fun c4 => ?_) (fun c4 => ?_)
      · have h := zk_it _ h c4
        refine zk_iconst dX12_outSet_47 zki_0 ?_
        subst h
        exact zk_weak (zk_leS (zk_leN (zk_leS zk_leE))) Jq3
      · have h := zk_if _ h c4
        refine zk_iconst dX12_outSet_41 zki_1 ?_
        refine zk_iload_n (i := 2) dX12_outSet_42 rfl rfl ?_
        refine zk_ishl dX12_outSet_43 ?_
        refine zk_goto 48 dX12_outSet_44 rfl ?_
        subst h
        exact zk_weak (zk_leS (zk_leN (zk_leS zk_leE))) Jq3
set_option maxRecDepth 100000 in
set_option maxHeartbeats 4000000 in
theorem fMd_outSet_ok {d : Nat} (hd : 0 ≤ d) (mem : zkM) (z : Int32) (h : fMd_outSet mem = some z) : zk_X zSM d zY_X12_outSet [.ref 0] mem (some (.int z), mem) := by
  unfold fMd_outSet at h
  refine zk_meet (n := 2) (lv := [some (.ref 0), none, none]) zpn_X12 rfl (Nat.le_of_ble_eq_true rfl) ?_
  refine zk_iconst dX12_outSet_0 zki_0 ?_
  refine zk_istore_n (i := 1) dX12_outSet_1 rfl (Nat.le_of_ble_eq_true rfl) rfl ?_
  refine zk_iconst dX12_outSet_2 zki_0 ?_
  refine zk_istore_n (i := 2) dX12_outSet_3 rfl (Nat.le_of_ble_eq_true rfl) rfl ?_
  obtain ⟨q1, hq1, h⟩ := zk_ob h
  refine zk_weak (zk_leS (zk_leS (zk_leS zk_leE))) (fMd_outSet_L4_ok hd 500 mem (0 : Int32) (0 : Int32) _ hq1 ?_)
  refine zk_iload_n (i := 1) dX12_outSet_56 rfl rfl ?_
  exact zk_ireturn dX12_outSet_57 rfl (zk_rI (Option.some.inj h))
set_option maxRecDepth 100000 in
set_option maxHeartbeats 4000000 in
theorem fMd_bolts_L35_ok {d : Nat} {Z : zkZ} (hd : 3 ≤ d)  : ∀ (n : Nat) (mem : zkM) (x1 : Int32) (x2 : Int32) (x3 : Int32) (x4 : Int32) (z : zkM), fMd_bolts_L35 n mem x1 x2 x4 = some z → zk_J zSM d zY_X12_bolts Z 57 [some (.ref 0), some (.int x1), some (.int x2), some (.int x3), none, none] [] z → zk_J zSM d zY_X12_bolts Z 35 [some (.ref 0), some (.int x1), some (.int x2), some (.int x3), some (.int x4), none] [] mem := by
  intro n
  induction n with
  | zero => intro mem x1 x2 x3 x4 z h; cases h
  | succ n ih =>
    intro mem x1 x2 x3 x4 z h he
    rw [fMd_bolts_L35] at h
    refine zk_iload dX12_bolts_35 rfl ?_
    refine zk_iload_n (i := 2) dX12_bolts_37 rfl rfl ?_
    refine zk_icmp_ge 57 dX12_bolts_38 rfl (fun c2 => ?_) (fun c2 => ?_)
    · have h := zk_it _ h c2
      cases h
      exact zk_weak (zk_leS (zk_leS (zk_leS (zk_leS (zk_leN (zk_leN zk_leE)))))) he
    · have h := zk_if _ h c2
      refine zk_aload_n (i := 0) dX12_bolts_41 rfl rfl ?_
      refine zk_aload_n (i := 0) dX12_bolts_42 rfl rfl ?_
      refine zk_getR 0 12 30 dX12_bolts_43 zf_X12_56 (Nat.le_of_ble_eq_true rfl) rfl rfl ?_
      refine zk_iconst dX12_bolts_46 zki_0 ?_
      refine zk_iload_n (i := 1) dX12_bolts_47 rfl rfl ?_
      obtain ⟨q1, hq1, h⟩ := zk_ob h
      refine zk_callVv zY_X12_blowsAll 0 12 [_, _, _] dX12_bolts_48 zl_X12_blowsAll zc_X12_208 zk_ok12 (Nat.le_of_ble_eq_true rfl) rfl (fMd_blowsAll_16_ok (d := 2) (Nat.le_refl _) mem _ _ _ hq1) (Nat.lt_of_lt_of_le (by decide) hd) (Nat.le_of_ble_eq_true rfl) ?_
      refine zk_iinc2 dX12_bolts_51 rfl zki_1 (Nat.le_of_ble_eq_true rfl) rfl ?_
      refine zk_goto 35 dX12_bolts_54 rfl ?_
      exact zk_weak (zk_leS (zk_leS (zk_leS (zk_leS (zk_leS (zk_leN zk_leE)))))) (ih q1 x1 x2 x3 (x4 + (1 : Int32)) _ h he)
set_option maxRecDepth 100000 in
set_option maxHeartbeats 4000000 in
theorem fMd_bolts_L77_ok {d : Nat} {Z : zkZ} (hd : 3 ≤ d)  : ∀ (n : Nat) (mem : zkM) (x1 : Int32) (x2 : Int32) (x4 : Int32) (x5 : Int32) (z : zkM), fMd_bolts_L77 n mem x5 = some z → zk_J zSM d zY_X12_bolts Z 130 [some (.ref 0), some (.int x1), some (.int x2), none, some (.int x4), none] [] z → zk_J zSM d zY_X12_bolts Z 77 [some (.ref 0), some (.int x1), some (.int x2), none, some (.int x4), some (.int x5)] [] mem := by
  intro n
  induction n with
  | zero => intro mem x1 x2 x4 x5 z h; cases h
  | succ n ih =>
    intro mem x1 x2 x4 x5 z h he
    rw [fMd_bolts_L77] at h
    refine zk_iload dX12_bolts_77 rfl ?_
    refine zk_iconst dX12_bolts_79 zki_2 ?_
    refine zk_aload_n (i := 0) dX12_bolts_80 rfl rfl ?_
    refine zk_getI 0 12 2 dX12_bolts_81 zf_X12_77 (Nat.le_of_ble_eq_true rfl) rfl rfl ?_
    refine zk_imul dX12_bolts_84 ?_
    refine zk_icmp_ge 130 dX12_bolts_85 rfl (fun c8 => ?_) (fun c8 => ?_)
    · have h := zk_it _ h c8
      cases h
      exact zk_weak (zk_leS (zk_leS (zk_leS (zk_leN (zk_leS (zk_leN zk_leE)))))) he
    · have h := zk_if _ h c8
      refine zk_aload_n (i := 0) dX12_bolts_88 rfl rfl ?_
      refine zk_getR 0 12 30 dX12_bolts_89 zf_X12_56 (Nat.le_of_ble_eq_true rfl) rfl rfl ?_
      refine zk_iconst dX12_bolts_92 zki_3 ?_
      refine zk_iload dX12_bolts_93 rfl ?_
      refine zk_imul dX12_bolts_95 ?_
      refine zk_iconst dX12_bolts_96 zki_2 ?_
      refine zk_iadd dX12_bolts_97 ?_
      obtain ⟨b1, h⟩ := zk_gd h
      refine zk_iaload 16 36 dX12_bolts_98 (Nat.le_of_ble_eq_true rfl) rfl (zk_inb_in b1) ?_
      obtain ⟨q2, hq2, h⟩ := zk_ob h
      have Jq2 : zk_J zSM d zY_X12_bolts Z 124 [some (.ref 0), some (.int x1), some (.int x2), none, some (.int x4), some (.int x5)] [] q2 := by
        refine zk_iinc2 dX12_bolts_124 rfl zki_1 (Nat.le_of_ble_eq_true rfl) rfl ?_
        refine zk_goto 77 dX12_bolts_127 rfl ?_
        exact zk_weak (zk_leS (zk_leS (zk_leS (zk_leN (zk_leS (zk_leS zk_leE)))))) (ih q2 x1 x2 x4 (x5 + (1 : Int32)) _ h he)
      have h := hq2
      clear hq2
      refine zk_if_ne 124 dX12_bolts_99 rfl (fun c7 => ?_) (fun c7 => ?_)
      · have h := zk_if _ h c7
        cases h
        exact zk_weak (zk_leS (zk_leS (zk_leS (zk_leN (zk_leS (zk_leS zk_leE)))))) Jq2
      · have h := zk_it _ h c7
        refine zk_aload_n (i := 0) dX12_bolts_102 rfl rfl ?_
        refine zk_getR 0 12 30 dX12_bolts_103 zf_X12_56 (Nat.le_of_ble_eq_true rfl) rfl rfl ?_
        refine zk_iconst dX12_bolts_106 zki_3 ?_
        refine zk_iload dX12_bolts_107 rfl ?_
        refine zk_imul dX12_bolts_109 ?_
        refine zk_iconst dX12_bolts_110 zki_3 ?_
        obtain ⟨b3, h⟩ := zk_gd h
        obtain ⟨m4, em4, h⟩ := zk_lt h
        refine zk_iastore' 16 36 dX12_bolts_111 (Nat.le_of_ble_eq_true rfl) rfl (zk_inb_in b3) em4 ?_
        refine zk_aload_n (i := 0) dX12_bolts_112 rfl rfl ?_
        refine zk_getR 0 12 30 dX12_bolts_113 zf_X12_56 (Nat.le_of_ble_eq_true rfl) rfl rfl ?_
        refine zk_iconst dX12_bolts_116 zki_3 ?_
        refine zk_iload dX12_bolts_117 rfl ?_
        refine zk_imul dX12_bolts_119 ?_
        refine zk_iconst dX12_bolts_120 zki_1 ?_
        refine zk_iadd dX12_bolts_121 ?_
        refine zk_iconst dX12_bolts_122 zki_0 ?_
        obtain ⟨b5, h⟩ := zk_gd h
        obtain ⟨m6, em6, h⟩ := zk_lt h
        refine zk_iastore' 16 36 dX12_bolts_123 (Nat.le_of_ble_eq_true rfl) rfl (zk_inb_in b5) em6 ?_
        cases h
        exact zk_weak (zk_leS (zk_leS (zk_leS (zk_leN (zk_leS (zk_leS zk_leE)))))) Jq2
set_option maxRecDepth 100000 in
set_option maxHeartbeats 4000000 in
theorem fMd_bolts_L133_ok {d : Nat} {Z : zkZ} (hd : 3 ≤ d)  : ∀ (n : Nat) (mem : zkM) (x1 : Int32) (x2 : Int32) (x4 : Int32) (x5 : Int32) (z : zkM), fMd_bolts_L133 n mem x1 x2 x5 = some z → zk_J zSM d zY_X12_bolts Z 155 [some (.ref 0), none, none, none, some (.int x4), none] [] z → zk_J zSM d zY_X12_bolts Z 133 [some (.ref 0), some (.int x1), some (.int x2), none, some (.int x4), some (.int x5)] [] mem := by
  intro n
  induction n with
  | zero => intro mem x1 x2 x4 x5 z h; cases h
  | succ n ih =>
    intro mem x1 x2 x4 x5 z h he
    rw [fMd_bolts_L133] at h
    refine zk_iload dX12_bolts_133 rfl ?_
    refine zk_iload_n (i := 2) dX12_bolts_135 rfl rfl ?_
    refine zk_icmp_ge 155 dX12_bolts_136 rfl (fun c2 => ?_) (fun c2 => ?_)
    · have h := zk_it _ h c2
      cases h
      exact zk_weak (zk_leS (zk_leN (zk_leN (zk_leN (zk_leS (zk_leN zk_leE)))))) he
    · have h := zk_if _ h c2
      refine zk_aload_n (i := 0) dX12_bolts_139 rfl rfl ?_
      refine zk_aload_n (i := 0) dX12_bolts_140 rfl rfl ?_
      refine zk_getR 0 12 30 dX12_bolts_141 zf_X12_56 (Nat.le_of_ble_eq_true rfl) rfl rfl ?_
      refine zk_iconst dX12_bolts_144 zki_0 ?_
      refine zk_iload_n (i := 1) dX12_bolts_145 rfl rfl ?_
      obtain ⟨q1, hq1, h⟩ := zk_ob h
      refine zk_callVv zY_X12_blowsAll 0 12 [_, _, _] dX12_bolts_146 zl_X12_blowsAll zc_X12_208 zk_ok12 (Nat.le_of_ble_eq_true rfl) rfl (fMd_blowsAll_16_ok (d := 2) (Nat.le_refl _) mem _ _ _ hq1) (Nat.lt_of_lt_of_le (by decide) hd) (Nat.le_of_ble_eq_true rfl) ?_
      refine zk_iinc2 dX12_bolts_149 rfl zki_1 (Nat.le_of_ble_eq_true rfl) rfl ?_
      refine zk_goto 133 dX12_bolts_152 rfl ?_
      exact zk_weak (zk_leS (zk_leS (zk_leS (zk_leN (zk_leS (zk_leS zk_leE)))))) (ih q1 x1 x2 x4 (x5 + (1 : Int32)) _ h he)
set_option maxRecDepth 100000 in
set_option maxHeartbeats 4000000 in
theorem fMd_bolts_ok {d : Nat} (hd : 3 ≤ d) (mem : zkM) (a1 : Int32) (a2 : Int32) (a3 : Int32) (z : Int32 × zkM) (h : fMd_bolts mem a1 a2 a3 = some z) : zk_X zSM d zY_X12_bolts [.ref 0, .int a1, .int a2, .int a3] mem (some (.int z.1), z.2) := by
  unfold fMd_bolts at h
  refine zk_meet (n := 2) (lv := [some (.ref 0), some (.int a1), some (.int a2), some (.int a3), none, none]) zpn_X12 rfl (Nat.le_of_ble_eq_true rfl) ?_
  refine zk_iload_n (i := 1) dX12_bolts_0 rfl rfl ?_
  refine zk_callSi zY_X12_isForce [_] dX12_bolts_1 zl_X12_isForce zc_X12_205 (fMd_isForce_ok (d := 1) (Nat.le_refl _) mem _ _ rfl) (Nat.lt_of_lt_of_le (by decide) hd) (Nat.le_of_ble_eq_true rfl) ?_
  refine zk_if_eq 26 dX12_bolts_4 rfl (fun c11 => ?_) (fun c11 => ?_)
  · have h := zk_it _ h c11
    refine zk_iconst dX12_bolts_26 zki_m1 ?_
    exact zk_ireturn dX12_bolts_27 rfl (zk_rIw (Option.some.inj h))
  · have h := zk_if _ h c11
    refine zk_iload_n (i := 2) dX12_bolts_7 rfl rfl ?_
    refine zk_iconst dX12_bolts_8 zki_1 ?_
    refine zk_bipush dX12_bolts_9 zkb_30 ?_
    refine zk_callSi zY_X12_in [_, _, _] dX12_bolts_11 zl_X12_in zc_X12_73 (fMd_in_ok (d := 0) (Nat.le_refl _) mem _ _ _ _ rfl) (Nat.lt_of_lt_of_le (by decide) hd) (Nat.le_of_ble_eq_true rfl) ?_
    refine zk_if_eq 26 dX12_bolts_14 rfl (fun c10 => ?_) (fun c10 => ?_)
    · have h := zk_it _ h c10
      refine zk_iconst dX12_bolts_26 zki_m1 ?_
      exact zk_ireturn dX12_bolts_27 rfl (zk_rIw (Option.some.inj h))
    · have h := zk_if _ h c10
      refine zk_iload_n (i := 3) dX12_bolts_17 rfl rfl ?_
      refine zk_iconst dX12_bolts_18 zki_0 ?_
      refine zk_iconst dX12_bolts_19 zki_1 ?_
      refine zk_callSi zY_X12_in [_, _, _] dX12_bolts_20 zl_X12_in zc_X12_73 (fMd_in_ok (d := 0) (Nat.le_refl _) mem _ _ _ _ rfl) (Nat.lt_of_lt_of_le (by decide) hd) (Nat.le_of_ble_eq_true rfl) ?_
      refine zk_if_ne 28 dX12_bolts_23 rfl (fun c9 => ?_) (fun c9 => ?_)
      · have h := zk_if _ h c9
        refine zk_aload_n (i := 0) dX12_bolts_28 rfl rfl ?_
        obtain ⟨q1, hq1, h⟩ := zk_ob h
        refine zk_callVv zY_X12_layEnds 0 12 [] dX12_bolts_29 zl_X12_layEnds zc_X12_195 zk_ok12 (Nat.le_of_ble_eq_true rfl) rfl (fMd_layEnds_ok (d := 0) (Nat.le_refl _) mem  _ hq1) (Nat.lt_of_lt_of_le (by decide) hd) (Nat.le_of_ble_eq_true rfl) ?_
        refine zk_iconst dX12_bolts_32 zki_0 ?_
        refine zk_istore dX12_bolts_33 (Nat.le_of_ble_eq_true rfl) rfl ?_
        obtain ⟨q2, hq2, h⟩ := zk_ob h
        refine zk_weak (zk_leS (zk_leS (zk_leS (zk_leS (zk_leS (zk_leN zk_leE)))))) (fMd_bolts_L35_ok hd 500 q1 a1 a2 a3 (0 : Int32) _ hq2 ?_)
        refine zk_aload_n (i := 0) dX12_bolts_57 rfl rfl ?_
        obtain ⟨q3, hq3, h⟩ := zk_ob h
        refine zk_callVi zY_X12_outSet 0 12 [] dX12_bolts_58 zl_X12_outSet zc_X12_240 zk_ok12 (Nat.le_of_ble_eq_true rfl) rfl (fMd_outSet_ok (d := 0) (Nat.le_refl _) q2  _ hq3) (Nat.lt_of_lt_of_le (by decide) hd) (Nat.le_of_ble_eq_true rfl) ?_
        refine zk_istore dX12_bolts_61 (Nat.le_of_ble_eq_true rfl) rfl ?_
        refine zk_iload_n (i := 3) dX12_bolts_63 rfl rfl ?_
        refine zk_if_ne 70 dX12_bolts_64 rfl (fun c8 => ?_) (fun c8 => ?_)
        · have h := zk_if _ h c8
          refine zk_aload_n (i := 0) dX12_bolts_70 rfl rfl ?_
          obtain ⟨q4, hq4, h⟩ := zk_ob h
          refine zk_callVv zY_X12_layEnds 0 12 [] dX12_bolts_71 zl_X12_layEnds zc_X12_195 zk_ok12 (Nat.le_of_ble_eq_true rfl) rfl (fMd_layEnds_ok (d := 0) (Nat.le_refl _) q2  _ hq4) (Nat.lt_of_lt_of_le (by decide) hd) (Nat.le_of_ble_eq_true rfl) ?_
          refine zk_iconst dX12_bolts_74 zki_0 ?_
          refine zk_istore dX12_bolts_75 (Nat.le_of_ble_eq_true rfl) rfl ?_
          obtain ⟨q5, hq5, h⟩ := zk_ob h
          refine zk_weak (zk_leS (zk_leS (zk_leS (zk_leN (zk_leS (zk_leS zk_leE)))))) (fMd_bolts_L77_ok hd 500 q4 a1 a2 q3 (0 : Int32) _ hq5 ?_)
          refine zk_iconst dX12_bolts_130 zki_0 ?_
          refine zk_istore dX12_bolts_131 (Nat.le_of_ble_eq_true rfl) rfl ?_
          obtain ⟨q6, hq6, h⟩ := zk_ob h
          refine zk_weak (zk_leS (zk_leS (zk_leS (zk_leN (zk_leS (zk_leS zk_leE)))))) (fMd_bolts_L133_ok hd 500 q5 a1 a2 q3 (0 : Int32) _ hq6 ?_)
          refine zk_iload dX12_bolts_155 rfl ?_
          refine zk_aload_n (i := 0) dX12_bolts_157 rfl rfl ?_
          obtain ⟨q7, hq7, h⟩ := zk_ob h
          refine zk_callVi zY_X12_outSet 0 12 [] dX12_bolts_158 zl_X12_outSet zc_X12_240 zk_ok12 (Nat.le_of_ble_eq_true rfl) rfl (fMd_outSet_ok (d := 0) (Nat.le_refl _) q6  _ hq7) (Nat.lt_of_lt_of_le (by decide) hd) (Nat.le_of_ble_eq_true rfl) ?_
          refine zk_iconst dX12_bolts_161 zki_m1 ?_
          refine zk_ixor dX12_bolts_162 ?_
          refine zk_iand dX12_bolts_163 ?_
          exact zk_ireturn dX12_bolts_164 rfl (zk_rIw (Option.some.inj h))
        · have h := zk_it _ h c8
          refine zk_iload dX12_bolts_67 rfl ?_
          exact zk_ireturn dX12_bolts_69 rfl (zk_rIw (Option.some.inj h))
      · have h := zk_it _ h c9
        refine zk_iconst dX12_bolts_26 zki_m1 ?_
        exact zk_ireturn dX12_bolts_27 rfl (zk_rIw (Option.some.inj h))
set_option maxRecDepth 100000 in
set_option maxHeartbeats 4000000 in
theorem fMd_stays_L3_ok {d : Nat} {Z : zkZ} (hd : 1 ≤ d)  : ∀ (n : Nat) (mem : zkM) (x1 : Int32) (x2 : Int32) (x3 : Int32) (x4 : Int32) (x5 : Int32) (z : zkM), fMd_stays_L3 n mem x2 x5 = some z → zk_J zSM d zY_X12_stays Z 34 [some (.ref 0), some (.int x1), none, some (.int x3), some (.int x4), none, none, none, none] [] z → zk_J zSM d zY_X12_stays Z 3 [some (.ref 0), some (.int x1), some (.int x2), some (.int x3), some (.int x4), some (.int x5), none, none, none] [] mem := by
  intro n
  induction n with
  | zero => intro mem x1 x2 x3 x4 x5 z h; cases h
  | succ n ih =>
    intro mem x1 x2 x3 x4 x5 z h he
    rw [fMd_stays_L3] at h
    refine zk_iload dX12_stays_3 rfl ?_
    refine zk_bipush dX12_stays_5 zkb_64 ?_
    refine zk_icmp_ge 34 dX12_stays_7 rfl (fun c5 => ?_) (fun c5 => ?_)
    · have h := zk_it _ h c5
      cases h
      exact zk_weak (zk_leS (zk_leS (zk_leN (zk_leS (zk_leS (zk_leN (zk_leN (zk_leN (zk_leN zk_leE))))))))) he
    · have h := zk_if _ h c5
      refine zk_aload_n (i := 0) dX12_stays_10 rfl rfl ?_
      refine zk_getR 0 12 31 dX12_stays_11 zf_X12_59 (Nat.le_of_ble_eq_true rfl) rfl rfl ?_
      refine zk_iload dX12_stays_14 rfl ?_
      refine zk_iload dX12_stays_16 rfl ?_
      refine zk_iload_n (i := 2) dX12_stays_18 rfl rfl ?_
      obtain ⟨q1, hq1, h⟩ := zk_lt h
      have Jq1 : zk_J zSM d zY_X12_stays Z 27 [some (.ref 0), some (.int x1), some (.int x2), some (.int x3), some (.int x4), some (.int x5), none, none, none] [.long q1, .int x5, .ref 17] mem := by
        obtain ⟨b3, h⟩ := zk_gd h
        obtain ⟨m4, em4, h⟩ := zk_lt h
        refine zk_lastore' 17 64 dX12_stays_27 (Nat.le_of_ble_eq_true rfl) rfl (zk_inb_in b3) em4 ?_
        refine zk_iinc2 dX12_stays_28 rfl zki_1 (Nat.le_of_ble_eq_true rfl) rfl ?_
        refine zk_goto 3 dX12_stays_31 rfl ?_
        exact zk_weak (zk_leS (zk_leS (zk_leS (zk_leS (zk_leS (zk_leS (zk_leN (zk_leN (zk_leN zk_leE))))))))) (ih m4 x1 x2 x3 x4 (x5 + (1 : Int32)) _ h he)
      have h := hq1
      clear hq1
      refine zk_icmp_ne 26 dX12_stays_19 rfl (fun c2 => ?_) (fun c2 => ?_)
      · have h := zk_if _ h c2
        refine zk_lconst (v := 0) dX12_stays_26 rfl ?_
        subst h
        exact zk_weak (zk_leS (zk_leS (zk_leS (zk_leS (zk_leS (zk_leS (zk_leN (zk_leN (zk_leN zk_leE))))))))) Jq1
      · have h := zk_it _ h c2
        refine zk_lconst (v := 1) dX12_stays_22 rfl ?_
        refine zk_goto 27 dX12_stays_23 rfl ?_
        subst h
        exact zk_weak (zk_leS (zk_leS (zk_leS (zk_leS (zk_leS (zk_leS (zk_leN (zk_leN (zk_leN zk_leE))))))))) Jq1
set_option maxRecDepth 100000 in
set_option maxHeartbeats 4000000 in
theorem fMd_stays_L47_ok {d : Nat} {Z : zkZ} (hd : 1 ≤ d)  : ∀ (n : Nat) (mem : zkM) (x1 : Int32) (x3 : Int32) (x4 : Int32) (x5 : Int32) (x6 : Int32) (z : zkM), fMd_stays_L47 n mem x6 = some z → zk_J zSM d zY_X12_stays Z 68 [some (.ref 0), some (.int x1), none, some (.int x3), some (.int x4), some (.int x5), none, none, none] [] z → zk_J zSM d zY_X12_stays Z 47 [some (.ref 0), some (.int x1), none, some (.int x3), some (.int x4), some (.int x5), some (.int x6), none, none] [] mem := by
  intro n
  induction n with
  | zero => intro mem x1 x3 x4 x5 x6 z h; cases h
  | succ n ih =>
    intro mem x1 x3 x4 x5 x6 z h he
    rw [fMd_stays_L47] at h
    refine zk_iload dX12_stays_47 rfl ?_
    refine zk_bipush dX12_stays_49 zkb_64 ?_
    refine zk_icmp_ge 68 dX12_stays_51 rfl (fun c3 => ?_) (fun c3 => ?_)
    · have h := zk_it _ h c3
      cases h
      exact zk_weak (zk_leS (zk_leS (zk_leN (zk_leS (zk_leS (zk_leS (zk_leN (zk_leN (zk_leN zk_leE))))))))) he
    · have h := zk_if _ h c3
      refine zk_aload_n (i := 0) dX12_stays_54 rfl rfl ?_
      refine zk_getR 0 12 32 dX12_stays_55 zf_X12_63 (Nat.le_of_ble_eq_true rfl) rfl rfl ?_
      refine zk_iload dX12_stays_58 rfl ?_
      refine zk_lconst (v := 0) dX12_stays_60 rfl ?_
      obtain ⟨b1, h⟩ := zk_gd h
      obtain ⟨m2, em2, h⟩ := zk_lt h
      refine zk_lastore' 18 64 dX12_stays_61 (Nat.le_of_ble_eq_true rfl) rfl (zk_inb_in b1) em2 ?_
      refine zk_iinc2 dX12_stays_62 rfl zki_1 (Nat.le_of_ble_eq_true rfl) rfl ?_
      refine zk_goto 47 dX12_stays_65 rfl ?_
      exact zk_weak (zk_leS (zk_leS (zk_leN (zk_leS (zk_leS (zk_leS (zk_leS (zk_leN (zk_leN zk_leE))))))))) (ih m2 x1 x3 x4 x5 (x6 + (1 : Int32)) _ h he)
set_option maxRecDepth 100000 in
set_option maxHeartbeats 4000000 in
theorem fMd_stays_L83_ok {d : Nat} {Z : zkZ} (hd : 1 ≤ d)  : ∀ (n : Nat) (mem : zkM) (x1 : Int32) (x3 : Int32) (x4 : Int32) (x5 : Int32) (x6 : Int32) (x7 : Int32) (z : zkM), fMd_stays_L83 n mem x1 x3 x6 x7 = some z → zk_J zSM d zY_X12_stays Z 125 [some (.ref 0), some (.int x1), none, some (.int x3), some (.int x4), some (.int x5), some (.int x6), none, none] [] z → zk_J zSM d zY_X12_stays Z 83 [some (.ref 0), some (.int x1), none, some (.int x3), some (.int x4), some (.int x5), some (.int x6), some (.int x7), none] [] mem := by
  intro n
  induction n with
  | zero => intro mem x1 x3 x4 x5 x6 x7 z h; cases h
  | succ n ih =>
    intro mem x1 x3 x4 x5 x6 x7 z h he
    rw [fMd_stays_L83] at h
    refine zk_iload dX12_stays_83 rfl ?_
    refine zk_bipush dX12_stays_85 zkb_7 ?_
    refine zk_icmp_ge 125 dX12_stays_87 rfl (fun c6 => ?_) (fun c6 => ?_)
    · have h := zk_it _ h c6
      cases h
      exact zk_weak (zk_leS (zk_leS (zk_leN (zk_leS (zk_leS (zk_leS (zk_leS (zk_leN (zk_leN zk_leE))))))))) he
    · have h := zk_if _ h c6
      refine zk_iload dX12_stays_90 rfl ?_
      refine zk_iload_n (i := 1) dX12_stays_92 rfl rfl ?_
      refine zk_iload_n (i := 3) dX12_stays_93 rfl rfl ?_
      refine zk_iload dX12_stays_94 rfl ?_
      refine zk_callSi zY_X12_wears [_, _, _] dX12_stays_96 zl_X12_wears zc_X12_164 (fMd_wears_ok (d := 0) (Nat.le_refl _) mem _ _ _ _ rfl) (Nat.lt_of_lt_of_le (by decide) hd) (Nat.le_of_ble_eq_true rfl) ?_
      refine zk_iadd dX12_stays_99 ?_
      obtain ⟨v1, ev1, h⟩ := zk_lt h
      refine zk_istore' dX12_stays_100 ev1 (Nat.le_of_ble_eq_true rfl) rfl ?_
      refine zk_aload_n (i := 0) dX12_stays_102 rfl rfl ?_
      refine zk_getR 0 12 32 dX12_stays_103 zf_X12_63 (Nat.le_of_ble_eq_true rfl) rfl rfl ?_
      refine zk_iload dX12_stays_106 rfl ?_
      refine zk_dup2 dX12_stays_108 rfl rfl ?_
      obtain ⟨b2, h⟩ := zk_gd h
      refine zk_laload 18 64 dX12_stays_109 (Nat.le_of_ble_eq_true rfl) rfl (zk_inb_in b2) ?_
      refine zk_aload_n (i := 0) dX12_stays_110 rfl rfl ?_
      refine zk_getR 0 12 31 dX12_stays_111 zf_X12_59 (Nat.le_of_ble_eq_true rfl) rfl rfl ?_
      refine zk_iload dX12_stays_114 rfl ?_
      obtain ⟨b3, h⟩ := zk_gd h
      refine zk_laload 17 64 dX12_stays_116 (Nat.le_of_ble_eq_true rfl) rfl (zk_inb_in b3) ?_
      refine zk_ladd dX12_stays_117 ?_
      obtain ⟨b4, h⟩ := zk_gd h
      obtain ⟨m5, em5, h⟩ := zk_lt h
      refine zk_lastore' 18 64 dX12_stays_118 (Nat.le_of_ble_eq_true rfl) rfl (zk_inb_in b4) em5 ?_
      refine zk_iinc2 dX12_stays_119 rfl zki_1 (Nat.le_of_ble_eq_true rfl) rfl ?_
      refine zk_goto 83 dX12_stays_122 rfl ?_
      exact zk_weak (zk_leS (zk_leS (zk_leN (zk_leS (zk_leS (zk_leS (zk_leS (zk_leS (zk_leN zk_leE))))))))) (ih m5 x1 x3 x4 x5 x6 (x7 + (1 : Int32)) _ h he)
set_option maxRecDepth 100000 in
set_option maxHeartbeats 4000000 in
theorem fMd_stays_L71_ok {d : Nat} {Z : zkZ} (hd : 1 ≤ d)  : ∀ (n : Nat) (mem : zkM) (x1 : Int32) (x3 : Int32) (x4 : Int32) (x5 : Int32) (x6 : Int32) (z : zkM), fMd_stays_L71 n mem x1 x3 x6 = some z → zk_J zSM d zY_X12_stays Z 131 [some (.ref 0), some (.int x1), none, some (.int x3), some (.int x4), some (.int x5), none, none, none] [] z → zk_J zSM d zY_X12_stays Z 71 [some (.ref 0), some (.int x1), none, some (.int x3), some (.int x4), some (.int x5), some (.int x6), none, none] [] mem := by
  intro n
  induction n with
  | zero => intro mem x1 x3 x4 x5 x6 z h; cases h
  | succ n ih =>
    intro mem x1 x3 x4 x5 x6 z h he
    rw [fMd_stays_L71] at h
    refine zk_iload dX12_stays_71 rfl ?_
    refine zk_iload_n (i := 1) dX12_stays_73 rfl rfl ?_
    refine zk_callSi zY_X12_givesAt [_] dX12_stays_74 zl_X12_givesAt zc_X12_168 (fMd_givesAt_ok (d := 0) (Nat.le_refl _) mem _ _ rfl) (Nat.lt_of_lt_of_le (by decide) hd) (Nat.le_of_ble_eq_true rfl) ?_
    refine zk_icmp_ge 131 dX12_stays_77 rfl (fun c2 => ?_) (fun c2 => ?_)
    · have h := zk_it _ h c2
      cases h
      exact zk_weak (zk_leS (zk_leS (zk_leN (zk_leS (zk_leS (zk_leS (zk_leN (zk_leN (zk_leN zk_leE))))))))) he
    · have h := zk_if _ h c2
      refine zk_iconst dX12_stays_80 zki_1 ?_
      refine zk_istore dX12_stays_81 (Nat.le_of_ble_eq_true rfl) rfl ?_
      obtain ⟨q1, hq1, h⟩ := zk_ob h
      refine zk_weak (zk_leS (zk_leS (zk_leN (zk_leS (zk_leS (zk_leS (zk_leS (zk_leS (zk_leN zk_leE))))))))) (fMd_stays_L83_ok hd 500 mem x1 x3 x4 x5 x6 (1 : Int32) _ hq1 ?_)
      refine zk_iinc2 dX12_stays_125 rfl zki_1 (Nat.le_of_ble_eq_true rfl) rfl ?_
      refine zk_goto 71 dX12_stays_128 rfl ?_
      exact zk_weak (zk_leS (zk_leS (zk_leN (zk_leS (zk_leS (zk_leS (zk_leS (zk_leN (zk_leN zk_leE))))))))) (ih q1 x1 x3 x4 x5 (x6 + (1 : Int32)) _ h he)
set_option maxRecDepth 100000 in
set_option maxHeartbeats 4000000 in
theorem fMd_stays_L134_ok {d : Nat} {Z : zkZ} (hd : 1 ≤ d)  : ∀ (n : Nat) (mem : zkM) (x1 : Int32) (x3 : Int32) (x4 : Int32) (x5 : Int32) (x6 : Int32) (z : zkM), fMd_stays_L134 n mem x1 x6 = some z → zk_J zSM d zY_X12_stays Z 174 [some (.ref 0), some (.int x1), none, some (.int x3), some (.int x4), some (.int x5), none, none, none] [] z → zk_J zSM d zY_X12_stays Z 134 [some (.ref 0), some (.int x1), none, some (.int x3), some (.int x4), some (.int x5), some (.int x6), none, none] [] mem := by
  intro n
  induction n with
  | zero => intro mem x1 x3 x4 x5 x6 z h; cases h
  | succ n ih =>
    intro mem x1 x3 x4 x5 x6 z h he
    rw [fMd_stays_L134] at h
    refine zk_iload dX12_stays_134 rfl ?_
    refine zk_bipush dX12_stays_136 zkb_64 ?_
    refine zk_icmp_ge 174 dX12_stays_138 rfl (fun c6 => ?_) (fun c6 => ?_)
    · have h := zk_it _ h c6
      cases h
      exact zk_weak (zk_leS (zk_leS (zk_leN (zk_leS (zk_leS (zk_leS (zk_leN (zk_leN (zk_leN zk_leE))))))))) he
    · have h := zk_if _ h c6
      refine zk_aload_n (i := 0) dX12_stays_141 rfl rfl ?_
      refine zk_getR 0 12 31 dX12_stays_142 zf_X12_59 (Nat.le_of_ble_eq_true rfl) rfl rfl ?_
      refine zk_iload dX12_stays_145 rfl ?_
      refine zk_iload dX12_stays_147 rfl ?_
      refine zk_iload_n (i := 1) dX12_stays_149 rfl rfl ?_
      refine zk_callSi zY_X12_givesAt [_] dX12_stays_150 zl_X12_givesAt zc_X12_168 (fMd_givesAt_ok (d := 0) (Nat.le_refl _) mem _ _ rfl) (Nat.lt_of_lt_of_le (by decide) hd) (Nat.le_of_ble_eq_true rfl) ?_
      obtain ⟨q1, hq1, h⟩ := zk_ob h
      have Jq1 : zk_J zSM d zY_X12_stays Z 167 [some (.ref 0), some (.int x1), none, some (.int x3), some (.int x4), some (.int x5), some (.int x6), none, none] [.long q1, .int x6, .ref 17] mem := by
        obtain ⟨b4, h⟩ := zk_gd h
        obtain ⟨m5, em5, h⟩ := zk_lt h
        refine zk_lastore' 17 64 dX12_stays_167 (Nat.le_of_ble_eq_true rfl) rfl (zk_inb_in b4) em5 ?_
        refine zk_iinc2 dX12_stays_168 rfl zki_1 (Nat.le_of_ble_eq_true rfl) rfl ?_
        refine zk_goto 134 dX12_stays_171 rfl ?_
        exact zk_weak (zk_leS (zk_leS (zk_leN (zk_leS (zk_leS (zk_leS (zk_leS (zk_leN (zk_leN zk_leE))))))))) (ih m5 x1 x3 x4 x5 (x6 + (1 : Int32)) _ h he)
      have h := hq1
      clear hq1
      refine zk_icmp_ge 166 dX12_stays_153 rfl (fun c3 => ?_) (fun c3 => ?_)
      · have h := zk_it _ h c3
        refine zk_lconst (v := 0) dX12_stays_166 rfl ?_
        cases h
        exact zk_weak (zk_leS (zk_leS (zk_leN (zk_leS (zk_leS (zk_leS (zk_leS (zk_leN (zk_leN zk_leE))))))))) Jq1
      · have h := zk_if _ h c3
        refine zk_aload_n (i := 0) dX12_stays_156 rfl rfl ?_
        refine zk_getR 0 12 32 dX12_stays_157 zf_X12_63 (Nat.le_of_ble_eq_true rfl) rfl rfl ?_
        refine zk_iload dX12_stays_160 rfl ?_
        obtain ⟨b2, h⟩ := zk_gd h
        refine zk_laload 18 64 dX12_stays_162 (Nat.le_of_ble_eq_true rfl) rfl (zk_inb_in b2) ?_
        refine zk_goto 167 dX12_stays_163 rfl ?_
        cases h
        exact zk_weak (zk_leS (zk_leS (zk_leN (zk_leS (zk_leS (zk_leS (zk_leS (zk_leN (zk_leN zk_leE))))))))) Jq1
set_option maxRecDepth 100000 in
set_option maxHeartbeats 4000000 in
theorem fMd_stays_L37_ok {d : Nat} {Z : zkZ} (hd : 1 ≤ d)  : ∀ (n : Nat) (mem : zkM) (x1 : Int32) (x3 : Int32) (x4 : Int32) (x5 : Int32) (z : zkM), fMd_stays_L37 n mem x1 x3 x4 x5 = some z → zk_J zSM d zY_X12_stays Z 180 [some (.ref 0), none, none, none, none, none, none, none, none] [] z → zk_J zSM d zY_X12_stays Z 37 [some (.ref 0), some (.int x1), none, some (.int x3), some (.int x4), some (.int x5), none, none, none] [] mem := by
  intro n
  induction n with
  | zero => intro mem x1 x3 x4 x5 z h; cases h
  | succ n ih =>
    intro mem x1 x3 x4 x5 z h he
    rw [fMd_stays_L37] at h
    refine zk_iload dX12_stays_37 rfl ?_
    refine zk_iload dX12_stays_39 rfl ?_
    refine zk_icmp_ge 180 dX12_stays_41 rfl (fun c4 => ?_) (fun c4 => ?_)
    · have h := zk_it _ h c4
      cases h
      exact zk_weak (zk_leS (zk_leN (zk_leN (zk_leN (zk_leN (zk_leN (zk_leN (zk_leN (zk_leN zk_leE))))))))) he
    · have h := zk_if _ h c4
      refine zk_iconst dX12_stays_44 zki_0 ?_
      refine zk_istore dX12_stays_45 (Nat.le_of_ble_eq_true rfl) rfl ?_
      obtain ⟨q1, hq1, h⟩ := zk_ob h
      refine zk_weak (zk_leS (zk_leS (zk_leN (zk_leS (zk_leS (zk_leS (zk_leS (zk_leN (zk_leN zk_leE))))))))) (fMd_stays_L47_ok hd 500 mem x1 x3 x4 x5 (0 : Int32) _ hq1 ?_)
      refine zk_iconst dX12_stays_68 zki_0 ?_
      refine zk_istore dX12_stays_69 (Nat.le_of_ble_eq_true rfl) rfl ?_
      obtain ⟨q2, hq2, h⟩ := zk_ob h
      refine zk_weak (zk_leS (zk_leS (zk_leN (zk_leS (zk_leS (zk_leS (zk_leS (zk_leN (zk_leN zk_leE))))))))) (fMd_stays_L71_ok hd 500 q1 x1 x3 x4 x5 (0 : Int32) _ hq2 ?_)
      refine zk_iconst dX12_stays_131 zki_0 ?_
      refine zk_istore dX12_stays_132 (Nat.le_of_ble_eq_true rfl) rfl ?_
      obtain ⟨q3, hq3, h⟩ := zk_ob h
      refine zk_weak (zk_leS (zk_leS (zk_leN (zk_leS (zk_leS (zk_leS (zk_leS (zk_leN (zk_leN zk_leE))))))))) (fMd_stays_L134_ok hd 500 q2 x1 x3 x4 x5 (0 : Int32) _ hq3 ?_)
      refine zk_iinc2 dX12_stays_174 rfl zki_1 (Nat.le_of_ble_eq_true rfl) rfl ?_
      refine zk_goto 37 dX12_stays_177 rfl ?_
      exact zk_weak (zk_leS (zk_leS (zk_leN (zk_leS (zk_leS (zk_leS (zk_leN (zk_leN (zk_leN zk_leE))))))))) (ih q3 x1 x3 x4 (x5 + (1 : Int32)) _ h he)
set_option maxRecDepth 100000 in
set_option maxHeartbeats 4000000 in
theorem fMd_stays_L186_ok {d : Nat} {Z : zkZ} (hd : 1 ≤ d)  : ∀ (n : Nat) (mem : zkM) (x5 : Int64) (x7 : Int32) (z : Int64), fMd_stays_L186 n mem x5 x7 = some z → zk_J zSM d zY_X12_stays Z 211 [none, none, none, none, none, some (.long z), none, none, none] [] mem → zk_J zSM d zY_X12_stays Z 186 [some (.ref 0), none, none, none, none, some (.long x5), none, some (.int x7), none] [] mem := by
  intro n
  induction n with
  | zero => intro mem x5 x7 z h; cases h
  | succ n ih =>
    intro mem x5 x7 z h he
    rw [fMd_stays_L186] at h
    refine zk_iload dX12_stays_186 rfl ?_
    refine zk_bipush dX12_stays_188 zkb_64 ?_
    refine zk_icmp_ge 211 dX12_stays_190 rfl (fun c3 => ?_) (fun c3 => ?_)
    · have h := zk_it _ h c3
      cases h
      exact zk_weak (zk_leN (zk_leN (zk_leN (zk_leN (zk_leN (zk_leS (zk_leN (zk_leN (zk_leN zk_leE))))))))) he
    · have h := zk_if _ h c3
      refine zk_lload dX12_stays_193 rfl ?_
      refine zk_aload_n (i := 0) dX12_stays_195 rfl rfl ?_
      refine zk_getR 0 12 31 dX12_stays_196 zf_X12_59 (Nat.le_of_ble_eq_true rfl) rfl rfl ?_
      refine zk_iload dX12_stays_199 rfl ?_
      obtain ⟨b1, h⟩ := zk_gd h
      refine zk_laload 17 64 dX12_stays_201 (Nat.le_of_ble_eq_true rfl) rfl (zk_inb_in b1) ?_
      refine zk_ladd dX12_stays_202 ?_
      obtain ⟨v2, ev2, h⟩ := zk_lt h
      refine zk_lstore' dX12_stays_203 ev2 (Nat.le_of_ble_eq_true rfl) rfl ?_
      refine zk_iinc2 dX12_stays_205 rfl zki_1 (Nat.le_of_ble_eq_true rfl) rfl ?_
      refine zk_goto 186 dX12_stays_208 rfl ?_
      exact zk_weak (zk_leS (zk_leN (zk_leN (zk_leN (zk_leN (zk_leS (zk_leN (zk_leS (zk_leN zk_leE))))))))) (ih mem v2 (x7 + (1 : Int32)) _ h he)
set_option maxRecDepth 100000 in
set_option maxHeartbeats 4000000 in
theorem fMd_stays_ok {d : Nat} (hd : 1 ≤ d) (mem : zkM) (a1 : Int32) (a2 : Int32) (a3 : Int32) (a4 : Int32) (z : Int64 × zkM) (h : fMd_stays mem a1 a2 a3 a4 = some z) : zk_X zSM d zY_X12_stays [.ref 0, .int a1, .int a2, .int a3, .int a4] mem (some (.long z.1), z.2) := by
  unfold fMd_stays at h
  refine zk_meet (n := 4) (lv := [some (.ref 0), some (.int a1), some (.int a2), some (.int a3), some (.int a4), none, none, none, none]) zpn_X12 rfl (Nat.le_of_ble_eq_true rfl) ?_
  refine zk_iconst dX12_stays_0 zki_0 ?_
  refine zk_istore dX12_stays_1 (Nat.le_of_ble_eq_true rfl) rfl ?_
  obtain ⟨q1, hq1, h⟩ := zk_ob h
  refine zk_weak (zk_leS (zk_leS (zk_leS (zk_leS (zk_leS (zk_leS (zk_leN (zk_leN (zk_leN zk_leE))))))))) (fMd_stays_L3_ok hd 500 mem a1 a2 a3 a4 (0 : Int32) _ hq1 ?_)
  refine zk_iconst dX12_stays_34 zki_0 ?_
  refine zk_istore dX12_stays_35 (Nat.le_of_ble_eq_true rfl) rfl ?_
  obtain ⟨q2, hq2, h⟩ := zk_ob h
  refine zk_weak (zk_leS (zk_leS (zk_leN (zk_leS (zk_leS (zk_leS (zk_leN (zk_leN (zk_leN zk_leE))))))))) (fMd_stays_L37_ok hd 500 q1 a1 a3 a4 (0 : Int32) _ hq2 ?_)
  refine zk_lconst (v := 0) dX12_stays_180 rfl ?_
  refine zk_lstore dX12_stays_181 (Nat.le_of_ble_eq_true rfl) rfl ?_
  refine zk_iconst dX12_stays_183 zki_0 ?_
  refine zk_istore dX12_stays_184 (Nat.le_of_ble_eq_true rfl) rfl ?_
  obtain ⟨q3, hq3, h⟩ := zk_ob h
  refine zk_weak (zk_leS (zk_leN (zk_leN (zk_leN (zk_leN (zk_leS (zk_leN (zk_leS (zk_leN zk_leE))))))))) (fMd_stays_L186_ok hd 500 q2 (0 : Int64) (0 : Int32) _ hq3 ?_)
  refine zk_lload dX12_stays_211 rfl ?_
  exact zk_lreturn dX12_stays_213 rfl (zk_rLw (Option.some.inj h))
set_option maxRecDepth 100000 in
set_option maxHeartbeats 4000000 in
theorem fMd_odds_L71_ok {d : Nat} {Z : zkZ} (hd : 2 ≤ d)  : ∀ (n : Nat) (mem : zkM) (x1 : Int32) (x2 : Int32) (x3 : Int32) (x4 : Int32) (x5 : Int32) (x6 : Int64) (x8 : Int32) (z : Int64), fMd_odds_L71 n mem x3 x6 x8 = some z → zk_J zSM d zY_X12_odds Z 91 [some (.ref 0), some (.int x1), some (.int x2), some (.int x3), some (.int x4), some (.int x5), some (.long z), none, none, none, none, none, none, none, none, none] [] mem → zk_J zSM d zY_X12_odds Z 71 [some (.ref 0), some (.int x1), some (.int x2), some (.int x3), some (.int x4), some (.int x5), some (.long x6), none, some (.int x8), none, none, none, none, none, none, none] [] mem := by
  intro n
  induction n with
  | zero => intro mem x1 x2 x3 x4 x5 x6 x8 z h; cases h
  | succ n ih =>
    intro mem x1 x2 x3 x4 x5 x6 x8 z h he
    rw [fMd_odds_L71] at h
    refine zk_iload dX12_odds_71 rfl ?_
    refine zk_iload_n (i := 3) dX12_odds_73 rfl rfl ?_
    refine zk_icmp_ge 91 dX12_odds_74 rfl (fun c2 => ?_) (fun c2 => ?_)
    · have h := zk_it _ h c2
      cases h
      exact zk_weak (zk_leS (zk_leS (zk_leS (zk_leS (zk_leS (zk_leS (zk_leS (zk_leN (zk_leN (zk_leN (zk_leN (zk_leN (zk_leN (zk_leN (zk_leN (zk_leN zk_leE)))))))))))))))) he
    · have h := zk_if _ h c2
      refine zk_lload dX12_odds_77 rfl ?_
      refine zk_ldc2 dX12_odds_79 zd_X12_247 ?_
      refine zk_lmul dX12_odds_82 ?_
      obtain ⟨v1, ev1, h⟩ := zk_lt h
      refine zk_lstore' dX12_odds_83 ev1 (Nat.le_of_ble_eq_true rfl) rfl ?_
      refine zk_iinc2 dX12_odds_85 rfl zki_1 (Nat.le_of_ble_eq_true rfl) rfl ?_
      refine zk_goto 71 dX12_odds_88 rfl ?_
      exact zk_weak (zk_leS (zk_leS (zk_leS (zk_leS (zk_leS (zk_leS (zk_leS (zk_leN (zk_leS (zk_leN (zk_leN (zk_leN (zk_leN (zk_leN (zk_leN (zk_leN zk_leE)))))))))))))))) (ih mem x1 x2 x3 x4 x5 v1 (x8 + (1 : Int32)) _ h he)
