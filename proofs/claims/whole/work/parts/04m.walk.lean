set_option maxRecDepth 100000 in
set_option maxHeartbeats 4000000 in
theorem fMd_forget_ok {d : Nat} (hd : 0 ≤ d) (mem : zkM) (z : Int32 × zkM) (h : fMd_forget mem = z) : zk_X zSM d zY_X12_forget [.ref 0] mem (some (.int z.1), z.2) := by
  unfold fMd_forget at h
  refine zk_meet (n := 1) (lv := [some (.ref 0), none]) zpn_X12 rfl (Nat.le_of_ble_eq_true rfl) ?_
  refine zk_aload_n (i := 0) dX12_forget_0 rfl rfl ?_
  refine zk_getI 0 12 11 dX12_forget_1 zf_X12_145 (Nat.le_of_ble_eq_true rfl) rfl rfl ?_
  obtain ⟨v1, ev1, h⟩ := zk_lt h
  refine zk_istore_n' (i := 1) dX12_forget_4 rfl ev1 (Nat.le_of_ble_eq_true rfl) rfl ?_
  refine zk_aload_n (i := 0) dX12_forget_5 rfl rfl ?_
  refine zk_iconst dX12_forget_6 zki_0 ?_
  obtain ⟨m2, em2, h⟩ := zk_lt h
  refine zk_putI' 0 12 11 dX12_forget_7 zp_X12_145 (Nat.le_of_ble_eq_true rfl) rfl rfl em2 ?_
  refine zk_iload_n (i := 1) dX12_forget_10 rfl rfl ?_
  exact zk_ireturn dX12_forget_11 rfl (zk_rIw h)
set_option maxRecDepth 100000 in
set_option maxHeartbeats 4000000 in
theorem fMd_breaks_ok {d : Nat} (hd : 0 ≤ d) (mem : zkM) (a1 : Int32) (a2 : Int32) (a3 : Int32) (z : Bool) (h : fMd_breaks mem a1 a2 a3 = some z) : zk_X zSM d zY_X12_breaks [.ref 0, .int a1, .int a2, .int a3] mem (some (.int (zk_b z)), mem) := by
  unfold fMd_breaks at h
  refine zk_meet (n := 0) (lv := [some (.ref 0), some (.int a1), some (.int a2), some (.int a3)]) zpn_X12 rfl (Nat.le_of_ble_eq_true rfl) ?_
  refine zk_iload_n (i := 3) dX12_breaks_0 rfl rfl ?_
  refine zk_iload_n (i := 2) dX12_breaks_1 rfl rfl ?_
  refine zk_iload_n (i := 1) dX12_breaks_2 rfl rfl ?_
  obtain ⟨q1, hq1, h⟩ := zk_ob h
  have Jq1 : zk_J zSM d zY_X12_breaks (zk_R zSM (some (.int (zk_b z)), mem)) 31 [none, none, none, none] [.int q1, .int a3] mem := by
    refine zk_icmp_le 38 dX12_breaks_31 rfl (fun c5 => ?_) (fun c5 => ?_)
    · have h := zk_it _ h c5
      refine zk_iconst dX12_breaks_38 zki_0 ?_
      exact zk_zreturn dX12_breaks_39 rfl rfl (zk_rZ (Option.some.inj h))
    · have h := zk_if _ h c5
      refine zk_iconst dX12_breaks_34 zki_1 ?_
      refine zk_goto 39 dX12_breaks_35 rfl ?_
      exact zk_zreturn dX12_breaks_39 rfl rfl (zk_rZ (Option.some.inj h))
  have h := hq1
  clear hq1
  refine zk_icmp_ne 21 dX12_breaks_3 rfl (fun c4 => ?_) (fun c4 => ?_)
  · have h := zk_if _ h c4
    refine zk_aload_n (i := 0) dX12_breaks_21 rfl rfl ?_
    refine zk_getR 0 12 3 dX12_breaks_22 zf_X12_13 (Nat.le_of_ble_eq_true rfl) rfl rfl ?_
    refine zk_iconst dX12_breaks_25 zki_3 ?_
    refine zk_iload_n (i := 2) dX12_breaks_26 rfl rfl ?_
    refine zk_imul dX12_breaks_27 ?_
    refine zk_iconst dX12_breaks_28 zki_2 ?_
    refine zk_iadd dX12_breaks_29 ?_
    obtain ⟨b2, h⟩ := zk_gd h
    refine zk_iaload 2 18 dX12_breaks_30 (Nat.le_of_ble_eq_true rfl) rfl (zk_inb_in b2) ?_
    cases h
    exact zk_weak (zk_leN (zk_leN (zk_leN (zk_leN zk_leE)))) Jq1
  · have h := zk_it _ h c4
    refine zk_aload_n (i := 0) dX12_breaks_6 rfl rfl ?_
    refine zk_getR 0 12 3 dX12_breaks_7 zf_X12_13 (Nat.le_of_ble_eq_true rfl) rfl rfl ?_
    refine zk_iconst dX12_breaks_10 zki_3 ?_
    refine zk_iload_n (i := 2) dX12_breaks_11 rfl rfl ?_
    refine zk_imul dX12_breaks_12 ?_
    refine zk_iconst dX12_breaks_13 zki_2 ?_
    refine zk_iadd dX12_breaks_14 ?_
    obtain ⟨b3, h⟩ := zk_gd h
    refine zk_iaload 2 18 dX12_breaks_15 (Nat.le_of_ble_eq_true rfl) rfl (zk_inb_in b3) ?_
    refine zk_iconst dX12_breaks_16 zki_2 ?_
    refine zk_idiv dX12_breaks_17 (by decide) ?_
    refine zk_goto 31 dX12_breaks_18 rfl ?_
    cases h
    exact zk_weak (zk_leN (zk_leN (zk_leN (zk_leN zk_leE)))) Jq1
set_option maxRecDepth 100000 in
set_option maxHeartbeats 4000000 in
theorem fMd_mayBeNow_L17_ok {d : Nat} {Z : zkZ} (hd : 1 ≤ d)  : ∀ (n : Nat) (mem : zkM) (x1 : Int32) (x2 : Int32) (x3 : Int32) (x4 : Int32) (z : Int32), fMd_mayBeNow_L17 n mem x2 x3 x4 = some z → zk_J zSM d zY_X12_mayBeNow Z 90 [some (.ref 0), some (.int x1), some (.int x2), some (.int z), none] [] mem → zk_J zSM d zY_X12_mayBeNow Z 17 [some (.ref 0), some (.int x1), some (.int x2), some (.int x3), some (.int x4)] [] mem := by
  intro n
  induction n with
  | zero => intro mem x1 x2 x3 x4 z h; cases h
  | succ n ih =>
    intro mem x1 x2 x3 x4 z h he
    rw [fMd_mayBeNow_L17] at h
    refine zk_iload dX12_mayBeNow_17 rfl ?_
    refine zk_aload_n (i := 0) dX12_mayBeNow_19 rfl rfl ?_
    refine zk_getI 0 12 11 dX12_mayBeNow_20 zf_X12_145 (Nat.le_of_ble_eq_true rfl) rfl rfl ?_
    refine zk_icmp_ge 90 dX12_mayBeNow_23 rfl (fun c10 => ?_) (fun c10 => ?_)
    · have h := zk_it _ h c10
      cases h
      exact zk_weak (zk_leS (zk_leS (zk_leS (zk_leS (zk_leN zk_leE))))) he
    · have h := zk_if _ h c10
      refine zk_iload_n (i := 3) dX12_mayBeNow_26 rfl rfl ?_
      obtain ⟨q1, hq1, h⟩ := zk_ob h
      have Jq1 : zk_J zSM d zY_X12_mayBeNow Z 83 [some (.ref 0), some (.int x1), some (.int x2), none, some (.int x4)] [.int (zk_b q1)] mem := by
        refine zk_istore_n (i := 3) dX12_mayBeNow_83 rfl (Nat.le_of_ble_eq_true rfl) rfl ?_
        refine zk_iinc2 dX12_mayBeNow_84 rfl zki_1 (Nat.le_of_ble_eq_true rfl) rfl ?_
        refine zk_goto 17 dX12_mayBeNow_87 rfl ?_
        exact zk_weak (zk_leS (zk_leS (zk_leS (zk_leS (zk_leS zk_leE))))) (ih mem x1 x2 (zk_b q1) (x4 + (1 : Int32)) _ h he)
      have h := hq1
      clear hq1
      refine zk_if_eq 82 dX12_mayBeNow_27 rfl (fun c9 => ?_) (fun c9 => ?_)
      · have h := zk_it _ h c9
        refine zk_iconst dX12_mayBeNow_82 zki_0 ?_
        cases h
        exact zk_weak (zk_leS (zk_leS (zk_leS (zk_leN (zk_leS zk_leE))))) Jq1
      · have h := zk_if _ h c9
        refine zk_aload_n (i := 0) dX12_mayBeNow_30 rfl rfl ?_
        refine zk_iload_n (i := 2) dX12_mayBeNow_31 rfl rfl ?_
        refine zk_aload_n (i := 0) dX12_mayBeNow_32 rfl rfl ?_
        refine zk_getR 0 12 12 dX12_mayBeNow_33 zf_X12_32 (Nat.le_of_ble_eq_true rfl) rfl rfl ?_
        refine zk_iconst dX12_mayBeNow_36 zki_3 ?_
        refine zk_iload dX12_mayBeNow_37 rfl ?_
        refine zk_imul dX12_mayBeNow_39 ?_
        obtain ⟨b2, h⟩ := zk_gd h
        refine zk_iaload 8 18 dX12_mayBeNow_40 (Nat.le_of_ble_eq_true rfl) rfl (zk_inb_in b2) ?_
        refine zk_aload_n (i := 0) dX12_mayBeNow_41 rfl rfl ?_
        refine zk_getR 0 12 12 dX12_mayBeNow_42 zf_X12_32 (Nat.le_of_ble_eq_true rfl) rfl rfl ?_
        refine zk_iconst dX12_mayBeNow_45 zki_3 ?_
        refine zk_iload dX12_mayBeNow_46 rfl ?_
        refine zk_imul dX12_mayBeNow_48 ?_
        refine zk_iconst dX12_mayBeNow_49 zki_1 ?_
        refine zk_iadd dX12_mayBeNow_50 ?_
        obtain ⟨b3, h⟩ := zk_gd h
        refine zk_iaload 8 18 dX12_mayBeNow_51 (Nat.le_of_ble_eq_true rfl) rfl (zk_inb_in b3) ?_
        obtain ⟨q4, hq4, h⟩ := zk_ob h
        refine zk_callVi zY_X12_breaks 0 12 [_, _, _] dX12_mayBeNow_52 zl_X12_breaks zc_X12_265 zk_ok12 (Nat.le_of_ble_eq_true rfl) rfl (fMd_breaks_ok (d := 0) (Nat.le_refl _) mem _ _ _ _ hq4) (Nat.lt_of_lt_of_le (by decide) hd) (Nat.le_of_ble_eq_true rfl) ?_
        refine zk_aload_n (i := 0) dX12_mayBeNow_55 rfl rfl ?_
        refine zk_getR 0 12 12 dX12_mayBeNow_56 zf_X12_32 (Nat.le_of_ble_eq_true rfl) rfl rfl ?_
        refine zk_iconst dX12_mayBeNow_59 zki_3 ?_
        refine zk_iload dX12_mayBeNow_60 rfl ?_
        refine zk_imul dX12_mayBeNow_62 ?_
        refine zk_iconst dX12_mayBeNow_63 zki_2 ?_
        refine zk_iadd dX12_mayBeNow_64 ?_
        obtain ⟨b5, h⟩ := zk_gd h
        refine zk_iaload 8 18 dX12_mayBeNow_65 (Nat.le_of_ble_eq_true rfl) rfl (zk_inb_in b5) ?_
        refine zk_iconst dX12_mayBeNow_66 zki_1 ?_
        refine zk_icmp_ne 74 dX12_mayBeNow_67 rfl (fun c8 => ?_) (fun c8 => ?_)
        · have h := zk_if _ h c8
          refine zk_iconst dX12_mayBeNow_74 zki_0 ?_
          refine zk_icmp_ne 82 dX12_mayBeNow_75 rfl (fun c6 => ?_) (fun c6 => ?_)
          · have h := zk_if _ h c6
            refine zk_iconst dX12_mayBeNow_82 zki_0 ?_
            cases h
            exact zk_weak (zk_leS (zk_leS (zk_leS (zk_leN (zk_leS zk_leE))))) Jq1
          · have h := zk_it _ h c6
            refine zk_iconst dX12_mayBeNow_78 zki_1 ?_
            refine zk_goto 83 dX12_mayBeNow_79 rfl ?_
            cases h
            exact zk_weak (zk_leS (zk_leS (zk_leS (zk_leN (zk_leS zk_leE))))) Jq1
        · have h := zk_it _ h c8
          refine zk_iconst dX12_mayBeNow_70 zki_1 ?_
          refine zk_goto 75 dX12_mayBeNow_71 rfl ?_
          refine zk_icmp_ne 82 dX12_mayBeNow_75 rfl (fun c7 => ?_) (fun c7 => ?_)
          · have h := zk_if _ h c7
            refine zk_iconst dX12_mayBeNow_82 zki_0 ?_
            cases h
            exact zk_weak (zk_leS (zk_leS (zk_leS (zk_leN (zk_leS zk_leE))))) Jq1
          · have h := zk_it _ h c7
            refine zk_iconst dX12_mayBeNow_78 zki_1 ?_
            refine zk_goto 83 dX12_mayBeNow_79 rfl ?_
            cases h
            exact zk_weak (zk_leS (zk_leS (zk_leS (zk_leN (zk_leS zk_leE))))) Jq1
set_option maxRecDepth 100000 in
set_option maxHeartbeats 4000000 in
theorem fMd_mayBeNow_L4_ok {d : Nat} {Z : zkZ} (hd : 1 ≤ d)  : ∀ (n : Nat) (mem : zkM) (x1 : Int32) (x2 : Int32) (z : Int32), fMd_mayBeNow_L4 n mem x1 x2 = some z → zk_J zSM d zY_X12_mayBeNow Z 110 [none, some (.int z), none, none, none] [] mem → zk_J zSM d zY_X12_mayBeNow Z 4 [some (.ref 0), some (.int x1), some (.int x2), none, none] [] mem := by
  intro n
  induction n with
  | zero => intro mem x1 x2 z h; cases h
  | succ n ih =>
    intro mem x1 x2 z h he
    rw [fMd_mayBeNow_L4] at h
    refine zk_iload_n (i := 2) dX12_mayBeNow_4 rfl rfl ?_
    refine zk_aload_n (i := 0) dX12_mayBeNow_5 rfl rfl ?_
    refine zk_getI 0 12 2 dX12_mayBeNow_6 zf_X12_77 (Nat.le_of_ble_eq_true rfl) rfl rfl ?_
    refine zk_icmp_ge 110 dX12_mayBeNow_9 rfl (fun c5 => ?_) (fun c5 => ?_)
    · have h := zk_it _ h c5
      cases h
      exact zk_weak (zk_leN (zk_leS (zk_leN (zk_leN (zk_leN zk_leE))))) he
    · have h := zk_if _ h c5
      refine zk_iconst dX12_mayBeNow_12 zki_1 ?_
      refine zk_istore_n (i := 3) dX12_mayBeNow_13 rfl (Nat.le_of_ble_eq_true rfl) rfl ?_
      refine zk_iconst dX12_mayBeNow_14 zki_0 ?_
      refine zk_istore dX12_mayBeNow_15 (Nat.le_of_ble_eq_true rfl) rfl ?_
      obtain ⟨q1, hq1, h⟩ := zk_ob h
      refine zk_weak (zk_leS (zk_leS (zk_leS (zk_leS (zk_leS zk_leE))))) (fMd_mayBeNow_L17_ok hd 500 mem x1 x2 (1 : Int32) (0 : Int32) _ hq1 ?_)
      refine zk_iload_n (i := 1) dX12_mayBeNow_90 rfl rfl ?_
      refine zk_iload_n (i := 3) dX12_mayBeNow_91 rfl rfl ?_
      obtain ⟨q2, hq2, h⟩ := zk_lt h
      have Jq2 : zk_J zSM d zY_X12_mayBeNow Z 102 [some (.ref 0), none, some (.int x2), none, none] [.int q2, .int x1] mem := by
        refine zk_ior dX12_mayBeNow_102 ?_
        obtain ⟨v4, ev4, h⟩ := zk_lt h
        refine zk_istore_n' (i := 1) dX12_mayBeNow_103 rfl ev4 (Nat.le_of_ble_eq_true rfl) rfl ?_
        refine zk_iinc2 dX12_mayBeNow_104 rfl zki_1 (Nat.le_of_ble_eq_true rfl) rfl ?_
        refine zk_goto 4 dX12_mayBeNow_107 rfl ?_
        exact zk_weak (zk_leS (zk_leS (zk_leS (zk_leN (zk_leN zk_leE))))) (ih mem v4 (x2 + (1 : Int32)) _ h he)
      have h := hq2
      clear hq2
      refine zk_if_eq 101 dX12_mayBeNow_92 rfl (fun c3 => ?_) (fun c3 => ?_)
      · have h := zk_it _ h c3
        refine zk_iconst dX12_mayBeNow_101 zki_0 ?_
        subst h
        exact zk_weak (zk_leS (zk_leN (zk_leS (zk_leN (zk_leN zk_leE))))) Jq2
      · have h := zk_if _ h c3
        refine zk_iconst dX12_mayBeNow_95 zki_1 ?_
        refine zk_iload_n (i := 2) dX12_mayBeNow_96 rfl rfl ?_
        refine zk_ishl dX12_mayBeNow_97 ?_
        refine zk_goto 102 dX12_mayBeNow_98 rfl ?_
        subst h
        exact zk_weak (zk_leS (zk_leN (zk_leS (zk_leN (zk_leN zk_leE))))) Jq2
set_option maxRecDepth 100000 in
set_option maxHeartbeats 4000000 in
theorem fMd_mayBeNow_ok {d : Nat} (hd : 1 ≤ d) (mem : zkM) (z : Int32) (h : fMd_mayBeNow mem = some z) : zk_X zSM d zY_X12_mayBeNow [.ref 0] mem (some (.int z), mem) := by
  unfold fMd_mayBeNow at h
  refine zk_meet (n := 4) (lv := [some (.ref 0), none, none, none, none]) zpn_X12 rfl (Nat.le_of_ble_eq_true rfl) ?_
  refine zk_iconst dX12_mayBeNow_0 zki_0 ?_
  refine zk_istore_n (i := 1) dX12_mayBeNow_1 rfl (Nat.le_of_ble_eq_true rfl) rfl ?_
  refine zk_iconst dX12_mayBeNow_2 zki_0 ?_
  refine zk_istore_n (i := 2) dX12_mayBeNow_3 rfl (Nat.le_of_ble_eq_true rfl) rfl ?_
  obtain ⟨q1, hq1, h⟩ := zk_ob h
  refine zk_weak (zk_leS (zk_leS (zk_leS (zk_leN (zk_leN zk_leE))))) (fMd_mayBeNow_L4_ok hd 500 mem (0 : Int32) (0 : Int32) _ hq1 ?_)
  refine zk_iload_n (i := 1) dX12_mayBeNow_110 rfl rfl ?_
  exact zk_ireturn dX12_mayBeNow_111 rfl (zk_rI (Option.some.inj h))
set_option maxRecDepth 100000 in
set_option maxHeartbeats 4000000 in
theorem fMd_mayBe_ok {d : Nat} (hd : 2 ≤ d) (mem : zkM) (z : Int32) (h : fMd_mayBe mem = some z) : zk_X zSM d zY_X12_mayBe [.ref 0] mem (some (.int z), mem) := by
  unfold fMd_mayBe at h
  refine zk_meet (n := 0) (lv := [some (.ref 0)]) zpn_X12 rfl (Nat.le_of_ble_eq_true rfl) ?_
  refine zk_aload_n (i := 0) dX12_mayBe_0 rfl rfl ?_
  obtain ⟨q1, hq1, h⟩ := zk_ob h
  refine zk_callVi zY_X12_mayBeNow 0 12 [] dX12_mayBe_1 zl_X12_mayBeNow zc_X12_268 zk_ok12 (Nat.le_of_ble_eq_true rfl) rfl (fMd_mayBeNow_ok (d := 1) (Nat.le_refl _) mem  _ hq1) (Nat.lt_of_lt_of_le (by decide) hd) (Nat.le_of_ble_eq_true rfl) ?_
  exact zk_ireturn dX12_mayBe_4 rfl (zk_rI (Option.some.inj h))
set_option maxRecDepth 100000 in
set_option maxHeartbeats 4000000 in
theorem fMd_ask_L44_ok {d : Nat} {Z : zkZ} (hd : 2 ≤ d)  : ∀ (n : Nat) (mem : zkM) (x1 : Int32) (x2 : Int32) (x3 : Int32) (x4 : Int32) (x5 : Int32) (x6 : Int32) (x7 : Int32) (z : Int32), fMd_ask_L44 n mem x2 x5 x6 x7 = some z → zk_J zSM d zY_X12_ask Z 99 [some (.ref 0), some (.int x1), some (.int x2), some (.int x3), some (.int x4), some (.int x5), some (.int z), none, none] [] mem → zk_J zSM d zY_X12_ask Z 44 [some (.ref 0), some (.int x1), some (.int x2), some (.int x3), some (.int x4), some (.int x5), some (.int x6), some (.int x7), none] [] mem := by
  intro n
  induction n with
  | zero => intro mem x1 x2 x3 x4 x5 x6 x7 z h; cases h
  | succ n ih =>
    intro mem x1 x2 x3 x4 x5 x6 x7 z h he
    rw [fMd_ask_L44] at h
    refine zk_iload dX12_ask_44 rfl ?_
    refine zk_aload_n (i := 0) dX12_ask_46 rfl rfl ?_
    refine zk_getI 0 12 2 dX12_ask_47 zf_X12_77 (Nat.le_of_ble_eq_true rfl) rfl rfl ?_
    refine zk_icmp_ge 99 dX12_ask_50 rfl (fun c6 => ?_) (fun c6 => ?_)
    · have h := zk_it _ h c6
      cases h
      exact zk_weak (zk_leS (zk_leS (zk_leS (zk_leS (zk_leS (zk_leS (zk_leS (zk_leN (zk_leN zk_leE))))))))) he
    · have h := zk_if _ h c6
      refine zk_iload dX12_ask_53 rfl ?_
      refine zk_iload_n (i := 2) dX12_ask_55 rfl rfl ?_
      refine zk_iload dX12_ask_56 rfl ?_
      refine zk_callSi zY_X12_has [_, _] dX12_ask_58 zl_X12_has zc_X12_253 (fMd_has_ok (d := 0) (Nat.le_refl _) mem _ _ _ rfl) (Nat.lt_of_lt_of_le (by decide) hd) (Nat.le_of_ble_eq_true rfl) ?_
      obtain ⟨q1, hq1, h⟩ := zk_ob h
      have Jq1 : zk_J zSM d zY_X12_ask Z 90 [some (.ref 0), some (.int x1), some (.int x2), some (.int x3), some (.int x4), some (.int x5), none, some (.int x7), none] [.int (zk_b q1), .int x6] mem := by
        refine zk_iadd dX12_ask_90 ?_
        obtain ⟨v5, ev5, h⟩ := zk_lt h
        refine zk_istore' dX12_ask_91 ev5 (Nat.le_of_ble_eq_true rfl) rfl ?_
        refine zk_iinc2 dX12_ask_93 rfl zki_1 (Nat.le_of_ble_eq_true rfl) rfl ?_
        refine zk_goto 44 dX12_ask_96 rfl ?_
        exact zk_weak (zk_leS (zk_leS (zk_leS (zk_leS (zk_leS (zk_leS (zk_leS (zk_leS (zk_leN zk_leE))))))))) (ih mem x1 x2 x3 x4 x5 v5 (x7 + (1 : Int32)) _ h he)
      have h := hq1
      clear hq1
      refine zk_if_eq 89 dX12_ask_61 rfl (fun c4 => ?_) (fun c4 => ?_)
      · have h := zk_it _ h c4
        refine zk_iconst dX12_ask_89 zki_0 ?_
        cases h
        exact zk_weak (zk_leS (zk_leS (zk_leS (zk_leS (zk_leS (zk_leS (zk_leN (zk_leS (zk_leN zk_leE))))))))) Jq1
      · have h := zk_if _ h c4
        refine zk_aload_n (i := 0) dX12_ask_64 rfl rfl ?_
        refine zk_iload dX12_ask_65 rfl ?_
        refine zk_iload dX12_ask_67 rfl ?_
        refine zk_bipush dX12_ask_69 zkb_40 ?_
        refine zk_idiv dX12_ask_71 (by decide) ?_
        refine zk_iload dX12_ask_72 rfl ?_
        refine zk_bipush dX12_ask_74 zkb_40 ?_
        refine zk_irem dX12_ask_76 (by decide) ?_
        refine zk_iconst dX12_ask_77 zki_1 ?_
        refine zk_iadd dX12_ask_78 ?_
        obtain ⟨q2, hq2, h⟩ := zk_ob h
        refine zk_callVi zY_X12_breaks 0 12 [_, _, _] dX12_ask_79 zl_X12_breaks zc_X12_265 zk_ok12 (Nat.le_of_ble_eq_true rfl) rfl (fMd_breaks_ok (d := 0) (Nat.le_refl _) mem _ _ _ _ hq2) (Nat.lt_of_lt_of_le (by decide) hd) (Nat.le_of_ble_eq_true rfl) ?_
        refine zk_if_eq 89 dX12_ask_82 rfl (fun c3 => ?_) (fun c3 => ?_)
        · have h := zk_it _ h c3
          refine zk_iconst dX12_ask_89 zki_0 ?_
          cases h
          exact zk_weak (zk_leS (zk_leS (zk_leS (zk_leS (zk_leS (zk_leS (zk_leN (zk_leS (zk_leN zk_leE))))))))) Jq1
        · have h := zk_if _ h c3
          refine zk_iconst dX12_ask_85 zki_1 ?_
          refine zk_goto 90 dX12_ask_86 rfl ?_
          cases h
          exact zk_weak (zk_leS (zk_leS (zk_leS (zk_leS (zk_leS (zk_leS (zk_leN (zk_leS (zk_leN zk_leE))))))))) Jq1
set_option maxRecDepth 100000 in
set_option maxHeartbeats 4000000 in
theorem fMd_ask_L26_ok {d : Nat} {Z : zkZ} (hd : 2 ≤ d)  : ∀ (n : Nat) (mem : zkM) (x1 : Int32) (x2 : Int32) (x3 : Int32) (x4 : Int32) (x5 : Int32) (z : Int32), fMd_ask_L26 n mem x2 x3 x4 x5 = some z → zk_J zSM d zY_X12_ask Z 160 [none, some (.int x1), none, some (.int z), none, none, none, none, none] [] mem → zk_J zSM d zY_X12_ask Z 26 [some (.ref 0), some (.int x1), some (.int x2), some (.int x3), some (.int x4), some (.int x5), none, none, none] [] mem := by
  intro n
  induction n with
  | zero => intro mem x1 x2 x3 x4 x5 z h; cases h
  | succ n ih =>
    intro mem x1 x2 x3 x4 x5 z h he
    rw [fMd_ask_L26] at h
    refine zk_iload dX12_ask_26 rfl ?_
    refine zk_bipush dX12_ask_28 zkb_40 ?_
    refine zk_aload_n (i := 0) dX12_ask_30 rfl rfl ?_
    refine zk_getI 0 12 2 dX12_ask_31 zf_X12_77 (Nat.le_of_ble_eq_true rfl) rfl rfl ?_
    refine zk_imul dX12_ask_34 ?_
    refine zk_icmp_ge 160 dX12_ask_35 rfl (fun c10 => ?_) (fun c10 => ?_)
    · have h := zk_it _ h c10
      cases h
      exact zk_weak (zk_leN (zk_leS (zk_leN (zk_leS (zk_leN (zk_leN (zk_leN (zk_leN (zk_leN zk_leE))))))))) he
    · have h := zk_if _ h c10
      refine zk_iconst dX12_ask_38 zki_0 ?_
      refine zk_istore dX12_ask_39 (Nat.le_of_ble_eq_true rfl) rfl ?_
      refine zk_iconst dX12_ask_41 zki_0 ?_
      refine zk_istore dX12_ask_42 (Nat.le_of_ble_eq_true rfl) rfl ?_
      obtain ⟨q1, hq1, h⟩ := zk_ob h
      refine zk_weak (zk_leS (zk_leS (zk_leS (zk_leS (zk_leS (zk_leS (zk_leS (zk_leS (zk_leN zk_leE))))))))) (fMd_ask_L44_ok hd 500 mem x1 x2 x3 x4 x5 (0 : Int32) (0 : Int32) _ hq1 ?_)
      refine zk_iload_n (i := 2) dX12_ask_99 rfl rfl ?_
      obtain ⟨q2, hq2, h⟩ := zk_ob h
      refine zk_callSi zY_X12_bits [_] dX12_ask_100 zl_X12_bits zc_X12_262 (fMd_bits_ok (d := 0) (Nat.le_refl _) mem _ _ hq2) (Nat.lt_of_lt_of_le (by decide) hd) (Nat.le_of_ble_eq_true rfl) ?_
      refine zk_iload dX12_ask_103 rfl ?_
      refine zk_isub dX12_ask_105 ?_
      obtain ⟨v3, ev3, h⟩ := zk_lt h
      refine zk_istore' dX12_ask_106 ev3 (Nat.le_of_ble_eq_true rfl) rfl ?_
      refine zk_iload dX12_ask_108 rfl ?_
      refine zk_iload dX12_ask_110 rfl ?_
      obtain ⟨q4, hq4, h⟩ := zk_lt h
      have Jq4 : zk_J zSM d zY_X12_ask Z 122 [some (.ref 0), some (.int x1), some (.int x2), some (.int x3), some (.int x4), some (.int x5), none, none, none] [.int q4] mem := by
        refine zk_istore dX12_ask_122 (Nat.le_of_ble_eq_true rfl) rfl ?_
        refine zk_iload dX12_ask_124 rfl ?_
        refine zk_iload dX12_ask_126 rfl ?_
        obtain ⟨q6, hq6, h⟩ := zk_lt h
        have Jq6 : zk_J zSM d zY_X12_ask Z 137 [some (.ref 0), some (.int x1), some (.int x2), none, some (.int x4), some (.int x5), none, none, some (.int q4)] [.int q6] mem := by
          refine zk_istore_n (i := 3) dX12_ask_137 rfl (Nat.le_of_ble_eq_true rfl) rfl ?_
          refine zk_iload dX12_ask_138 rfl ?_
          refine zk_iload dX12_ask_140 rfl ?_
          obtain ⟨q8, hq8, h⟩ := zk_lt h
          have Jq8 : zk_J zSM d zY_X12_ask Z 152 [some (.ref 0), some (.int x1), some (.int x2), some (.int q6), none, some (.int x5), none, none, none] [.int q8] mem := by
            refine zk_istore dX12_ask_152 (Nat.le_of_ble_eq_true rfl) rfl ?_
            refine zk_iinc2 dX12_ask_154 rfl zki_1 (Nat.le_of_ble_eq_true rfl) rfl ?_
            refine zk_goto 26 dX12_ask_157 rfl ?_
            exact zk_weak (zk_leS (zk_leS (zk_leS (zk_leS (zk_leS (zk_leS (zk_leN (zk_leN (zk_leN zk_leE))))))))) (ih mem x1 x2 q6 q8 (x5 + (1 : Int32)) _ h he)
          have h := hq8
          clear hq8
          refine zk_icmp_ge 150 dX12_ask_142 rfl (fun c9 => ?_) (fun c9 => ?_)
          · have h := zk_it _ h c9
            refine zk_iload dX12_ask_150 rfl ?_
            subst h
            exact zk_weak (zk_leS (zk_leS (zk_leS (zk_leS (zk_leN (zk_leS (zk_leN (zk_leN (zk_leN zk_leE))))))))) Jq8
          · have h := zk_if _ h c9
            refine zk_iload dX12_ask_145 rfl ?_
            refine zk_goto 152 dX12_ask_147 rfl ?_
            subst h
            exact zk_weak (zk_leS (zk_leS (zk_leS (zk_leS (zk_leN (zk_leS (zk_leN (zk_leN (zk_leN zk_leE))))))))) Jq8
        have h := hq6
        clear hq6
        refine zk_icmp_ge 136 dX12_ask_128 rfl (fun c7 => ?_) (fun c7 => ?_)
        · have h := zk_it _ h c7
          refine zk_iload_n (i := 3) dX12_ask_136 rfl rfl ?_
          subst h
          exact zk_weak (zk_leS (zk_leS (zk_leS (zk_leN (zk_leS (zk_leS (zk_leN (zk_leN (zk_leS zk_leE))))))))) Jq6
        · have h := zk_if _ h c7
          refine zk_iload dX12_ask_131 rfl ?_
          refine zk_goto 137 dX12_ask_133 rfl ?_
          subst h
          exact zk_weak (zk_leS (zk_leS (zk_leS (zk_leN (zk_leS (zk_leS (zk_leN (zk_leN (zk_leS zk_leE))))))))) Jq6
      have h := hq4
      clear hq4
      refine zk_icmp_le 120 dX12_ask_112 rfl (fun c5 => ?_) (fun c5 => ?_)
      · have h := zk_it _ h c5
        refine zk_iload dX12_ask_120 rfl ?_
        subst h
        exact zk_weak (zk_leS (zk_leS (zk_leS (zk_leS (zk_leS (zk_leS (zk_leN (zk_leN (zk_leN zk_leE))))))))) Jq4
      · have h := zk_if _ h c5
        refine zk_iload dX12_ask_115 rfl ?_
        refine zk_goto 122 dX12_ask_117 rfl ?_
        subst h
        exact zk_weak (zk_leS (zk_leS (zk_leS (zk_leS (zk_leS (zk_leS (zk_leN (zk_leN (zk_leN zk_leE))))))))) Jq4
set_option maxRecDepth 100000 in
set_option maxHeartbeats 4000000 in
theorem fMd_ask_ok {d : Nat} (hd : 2 ≤ d) (mem : zkM) (a1 : Int32) (z : Int32) (h : fMd_ask mem a1 = some z) : zk_X zSM d zY_X12_ask [.ref 0, .int a1] mem (some (.int z), mem) := by
  unfold fMd_ask at h
  refine zk_meet (n := 7) (lv := [some (.ref 0), some (.int a1), none, none, none, none, none, none, none]) zpn_X12 rfl (Nat.le_of_ble_eq_true rfl) ?_
  refine zk_iload_n (i := 1) dX12_ask_0 rfl rfl ?_
  refine zk_iconst dX12_ask_1 zki_0 ?_
  refine zk_iconst dX12_ask_2 zki_1 ?_
  refine zk_callSi zY_X12_in [_, _, _] dX12_ask_3 zl_X12_in zc_X12_73 (fMd_in_ok (d := 0) (Nat.le_refl _) mem _ _ _ _ rfl) (Nat.lt_of_lt_of_le (by decide) hd) (Nat.le_of_ble_eq_true rfl) ?_
  refine zk_if_ne 11 dX12_ask_6 rfl (fun c5 => ?_) (fun c5 => ?_)
  · have h := zk_if _ h c5
    refine zk_aload_n (i := 0) dX12_ask_11 rfl rfl ?_
    obtain ⟨q1, hq1, h⟩ := zk_ob h
    refine zk_callVi zY_X12_mayBeNow 0 12 [] dX12_ask_12 zl_X12_mayBeNow zc_X12_268 zk_ok12 (Nat.le_of_ble_eq_true rfl) rfl (fMd_mayBeNow_ok (d := 1) (Nat.le_refl _) mem  _ hq1) (Nat.lt_of_lt_of_le (by decide) hd) (Nat.le_of_ble_eq_true rfl) ?_
    refine zk_istore_n (i := 2) dX12_ask_15 rfl (Nat.le_of_ble_eq_true rfl) rfl ?_
    refine zk_bipush dX12_ask_16 zkb_m9 ?_
    refine zk_istore_n (i := 3) dX12_ask_18 rfl (Nat.le_of_ble_eq_true rfl) rfl ?_
    refine zk_bipush dX12_ask_19 zkb_7 ?_
    refine zk_istore dX12_ask_21 (Nat.le_of_ble_eq_true rfl) rfl ?_
    refine zk_iconst dX12_ask_23 zki_0 ?_
    refine zk_istore dX12_ask_24 (Nat.le_of_ble_eq_true rfl) rfl ?_
    obtain ⟨q2, hq2, h⟩ := zk_ob h
    refine zk_weak (zk_leS (zk_leS (zk_leS (zk_leS (zk_leS (zk_leS (zk_leN (zk_leN (zk_leN zk_leE))))))))) (fMd_ask_L26_ok hd 500 mem a1 q1 (-9 : Int32) (7 : Int32) (0 : Int32) _ hq2 ?_)
    refine zk_iload_n (i := 3) dX12_ask_160 rfl rfl ?_
    refine zk_bipush dX12_ask_161 zkb_m9 ?_
    refine zk_icmp_ne 171 dX12_ask_163 rfl (fun c4 => ?_) (fun c4 => ?_)
    · have h := zk_if _ h c4
      refine zk_iload_n (i := 1) dX12_ask_171 rfl rfl ?_
      refine zk_if_ne 182 dX12_ask_172 rfl (fun c3 => ?_) (fun c3 => ?_)
      · have h := zk_if _ h c3
        refine zk_iload_n (i := 3) dX12_ask_182 rfl rfl ?_
        refine zk_bipush dX12_ask_183 zkb_40 ?_
        refine zk_irem dX12_ask_185 (by decide) ?_
        refine zk_iconst dX12_ask_186 zki_1 ?_
        refine zk_iadd dX12_ask_187 ?_
        exact zk_ireturn dX12_ask_188 rfl (zk_rI (Option.some.inj h))
      · have h := zk_it _ h c3
        refine zk_iload_n (i := 3) dX12_ask_175 rfl rfl ?_
        refine zk_bipush dX12_ask_176 zkb_40 ?_
        refine zk_idiv dX12_ask_178 (by decide) ?_
        refine zk_goto 188 dX12_ask_179 rfl ?_
        exact zk_ireturn dX12_ask_188 rfl (zk_rI (Option.some.inj h))
    · have h := zk_it _ h c4
      refine zk_bipush dX12_ask_166 zkb_m9 ?_
      refine zk_goto 188 dX12_ask_168 rfl ?_
      exact zk_ireturn dX12_ask_188 rfl (zk_rI (Option.some.inj h))
  · have h := zk_it _ h c5
    refine zk_iconst dX12_ask_9 zki_m1 ?_
    exact zk_ireturn dX12_ask_10 rfl (zk_rI (Option.some.inj h))
set_option maxRecDepth 100000 in
set_option maxHeartbeats 4000000 in
theorem fMd_childRate_ok {d : Nat} (hd : 0 ≤ d) (mem : zkM) (a1 : Int32) (z : Int32 × zkM) (h : fMd_childRate mem a1 = some z) : zk_X zSM d zY_X12_childRate [.ref 0, .int a1] mem (some (.int z.1), z.2) := by
  unfold fMd_childRate at h
  refine zk_meet (n := 0) (lv := [some (.ref 0), some (.int a1)]) zpn_X12 rfl (Nat.le_of_ble_eq_true rfl) ?_
  refine zk_aload_n (i := 0) dX12_childRate_0 rfl rfl ?_
  refine zk_dup dX12_childRate_1 rfl ?_
  refine zk_getL 0 12 13 dX12_childRate_2 zf_X12_271 (Nat.le_of_ble_eq_true rfl) rfl rfl ?_
  refine zk_lconst (v := 1) dX12_childRate_5 rfl ?_
  refine zk_ladd dX12_childRate_6 ?_
  obtain ⟨m1, em1, h⟩ := zk_lt h
  refine zk_putL' 0 12 13 dX12_childRate_7 zp_X12_271 (Nat.le_of_ble_eq_true rfl) rfl rfl em1 ?_
  refine zk_aload_n (i := 0) dX12_childRate_10 rfl rfl ?_
  refine zk_getR 0 12 5 dX12_childRate_11 zf_X12_16 (Nat.le_of_ble_eq_true rfl) rfl rfl ?_
  refine zk_iconst dX12_childRate_14 zki_2 ?_
  refine zk_iload_n (i := 1) dX12_childRate_15 rfl rfl ?_
  refine zk_imul dX12_childRate_16 ?_
  obtain ⟨b2, h⟩ := zk_gd h
  refine zk_iaload 3 10 dX12_childRate_17 (Nat.le_of_ble_eq_true rfl) rfl (zk_inb_in b2) ?_
  exact zk_ireturn dX12_childRate_18 rfl (zk_rIw (Option.some.inj h))
set_option maxRecDepth 100000 in
set_option maxHeartbeats 4000000 in
theorem fMd_climberRate_ok {d : Nat} (hd : 1 ≤ d) (mem : zkM) (a1 : Int32) (z : Int32 × zkM) (h : fMd_climberRate mem a1 = some z) : zk_X zSM d zY_X12_climberRate [.ref 0, .int a1] mem (some (.int z.1), z.2) := by
  unfold fMd_climberRate at h
  refine zk_meet (n := 1) (lv := [some (.ref 0), some (.int a1), none]) zpn_X12 rfl (Nat.le_of_ble_eq_true rfl) ?_
  refine zk_aload_n (i := 0) dX12_climberRate_0 rfl rfl ?_
  refine zk_dup dX12_climberRate_1 rfl ?_
  refine zk_getL 0 12 13 dX12_climberRate_2 zf_X12_271 (Nat.le_of_ble_eq_true rfl) rfl rfl ?_
  refine zk_ldc2 dX12_climberRate_5 zd_X12_275 ?_
  refine zk_ladd dX12_climberRate_8 ?_
  obtain ⟨m1, em1, h⟩ := zk_lt h
  refine zk_putL' 0 12 13 dX12_climberRate_9 zp_X12_271 (Nat.le_of_ble_eq_true rfl) rfl rfl em1 ?_
  refine zk_aload_n (i := 0) dX12_climberRate_12 rfl rfl ?_
  refine zk_getR 0 12 6 dX12_climberRate_13 zf_X12_19 (Nat.le_of_ble_eq_true rfl) rfl rfl ?_
  refine zk_iconst dX12_climberRate_16 zki_1 ?_
  refine zk_iload_n (i := 1) dX12_climberRate_17 rfl rfl ?_
  refine zk_iadd dX12_climberRate_18 ?_
  obtain ⟨b2, h⟩ := zk_gd h
  refine zk_iaload 4 42 dX12_climberRate_19 (Nat.le_of_ble_eq_true rfl) rfl (zk_inb_in b2) ?_
  obtain ⟨v3, ev3, h⟩ := zk_lt h
  refine zk_istore_n' (i := 2) dX12_climberRate_20 rfl ev3 (Nat.le_of_ble_eq_true rfl) rfl ?_
  refine zk_aload_n (i := 0) dX12_climberRate_21 rfl rfl ?_
  refine zk_iload_n (i := 1) dX12_climberRate_22 rfl rfl ?_
  obtain ⟨q4, hq4, h⟩ := zk_ob h
  refine zk_callVi zY_X12_childRate 0 12 [_] dX12_climberRate_23 zl_X12_childRate zc_X12_277 zk_ok12 (Nat.le_of_ble_eq_true rfl) rfl (fMd_childRate_ok (d := 0) (Nat.le_refl _) m1 _ _ hq4) (Nat.lt_of_lt_of_le (by decide) hd) (Nat.le_of_ble_eq_true rfl) ?_
  refine zk_iload_n (i := 2) dX12_climberRate_26 rfl rfl ?_
  refine zk_bipush dX12_climberRate_27 zkb_m9 ?_
  refine zk_icmp_ne 36 dX12_climberRate_29 rfl (fun c7 => ?_) (fun c7 => ?_)
  · have h := zk_if _ h c7
    refine zk_aload_n (i := 0) dX12_climberRate_36 rfl rfl ?_
    refine zk_getR 0 12 1 dX12_climberRate_37 zf_X12_7 (Nat.le_of_ble_eq_true rfl) rfl rfl ?_
    refine zk_iconst dX12_climberRate_40 zki_3 ?_
    refine zk_aload_n (i := 0) dX12_climberRate_41 rfl rfl ?_
    refine zk_getR 0 12 3 dX12_climberRate_42 zf_X12_13 (Nat.le_of_ble_eq_true rfl) rfl rfl ?_
    refine zk_iconst dX12_climberRate_45 zki_3 ?_
    refine zk_iload_n (i := 2) dX12_climberRate_46 rfl rfl ?_
    refine zk_imul dX12_climberRate_47 ?_
    obtain ⟨b5, h⟩ := zk_gd h
    refine zk_iaload 2 18 dX12_climberRate_48 (Nat.le_of_ble_eq_true rfl) rfl (zk_inb_in b5) ?_
    refine zk_imul dX12_climberRate_49 ?_
    obtain ⟨b6, h⟩ := zk_gd h
    refine zk_iaload 1 24 dX12_climberRate_50 (Nat.le_of_ble_eq_true rfl) rfl (zk_inb_in b6) ?_
    refine zk_iadd dX12_climberRate_51 ?_
    exact zk_ireturn dX12_climberRate_52 rfl (zk_rIw (Option.some.inj h))
  · have h := zk_it _ h c7
    refine zk_iconst dX12_climberRate_32 zki_0 ?_
    refine zk_goto 51 dX12_climberRate_33 rfl ?_
    refine zk_iadd dX12_climberRate_51 ?_
    exact zk_ireturn dX12_climberRate_52 rfl (zk_rIw (Option.some.inj h))
set_option maxRecDepth 100000 in
set_option maxHeartbeats 4000000 in
theorem fMd_guestRate_ok {d : Nat} (hd : 1 ≤ d) (mem : zkM) (a1 : Int32) (z : Int32 × zkM) (h : fMd_guestRate mem a1 = some z) : zk_X zSM d zY_X12_guestRate [.ref 0, .int a1] mem (some (.int z.1), z.2) := by
  unfold fMd_guestRate at h
  refine zk_meet (n := 0) (lv := [some (.ref 0), some (.int a1)]) zpn_X12 rfl (Nat.le_of_ble_eq_true rfl) ?_
  refine zk_aload_n (i := 0) dX12_guestRate_0 rfl rfl ?_
  refine zk_dup dX12_guestRate_1 rfl ?_
  refine zk_getL 0 12 13 dX12_guestRate_2 zf_X12_271 (Nat.le_of_ble_eq_true rfl) rfl rfl ?_
  refine zk_ldc2 dX12_guestRate_5 zd_X12_280 ?_
  refine zk_ladd dX12_guestRate_8 ?_
  obtain ⟨m1, em1, h⟩ := zk_lt h
  refine zk_putL' 0 12 13 dX12_guestRate_9 zp_X12_271 (Nat.le_of_ble_eq_true rfl) rfl rfl em1 ?_
  refine zk_aload_n (i := 0) dX12_guestRate_12 rfl rfl ?_
  refine zk_iload_n (i := 1) dX12_guestRate_13 rfl rfl ?_
  obtain ⟨q2, hq2, h⟩ := zk_ob h
  refine zk_callVi zY_X12_childRate 0 12 [_] dX12_guestRate_14 zl_X12_childRate zc_X12_277 zk_ok12 (Nat.le_of_ble_eq_true rfl) rfl (fMd_childRate_ok (d := 0) (Nat.le_refl _) m1 _ _ hq2) (Nat.lt_of_lt_of_le (by decide) hd) (Nat.le_of_ble_eq_true rfl) ?_
  refine zk_aload_n (i := 0) dX12_guestRate_17 rfl rfl ?_
  refine zk_getR 0 12 5 dX12_guestRate_18 zf_X12_16 (Nat.le_of_ble_eq_true rfl) rfl rfl ?_
  refine zk_iconst dX12_guestRate_21 zki_2 ?_
  refine zk_iload_n (i := 1) dX12_guestRate_22 rfl rfl ?_
  refine zk_imul dX12_guestRate_23 ?_
  refine zk_iconst dX12_guestRate_24 zki_1 ?_
  refine zk_iadd dX12_guestRate_25 ?_
  obtain ⟨b3, h⟩ := zk_gd h
  refine zk_iaload 3 10 dX12_guestRate_26 (Nat.le_of_ble_eq_true rfl) rfl (zk_inb_in b3) ?_
  refine zk_isub dX12_guestRate_27 ?_
  exact zk_ireturn dX12_guestRate_28 rfl (zk_rIw (Option.some.inj h))
set_option maxRecDepth 100000 in
set_option maxHeartbeats 4000000 in
theorem fMd_rate_ok {d : Nat} (hd : 2 ≤ d) (mem : zkM) (a1 : Int32) (a2 : Int32) (z : Int32 × zkM) (h : fMd_rate mem a1 a2 = some z) : zk_X zSM d zY_X12_rate [.ref 0, .int a1, .int a2] mem (some (.int z.1), z.2) := by
  unfold fMd_rate at h
  refine zk_meet (n := 0) (lv := [some (.ref 0), some (.int a1), some (.int a2)]) zpn_X12 rfl (Nat.le_of_ble_eq_true rfl) ?_
  refine zk_iload_n (i := 1) dX12_rate_0 rfl rfl ?_
  refine zk_iconst dX12_rate_1 zki_0 ?_
  refine zk_iconst dX12_rate_2 zki_5 ?_
  refine zk_callSi zY_X12_in [_, _, _] dX12_rate_3 zl_X12_in zc_X12_73 (fMd_in_ok (d := 0) (Nat.le_refl _) mem _ _ _ _ rfl) (Nat.lt_of_lt_of_le (by decide) hd) (Nat.le_of_ble_eq_true rfl) ?_
  refine zk_if_eq 17 dX12_rate_6 rfl (fun c17 => ?_) (fun c17 => ?_)
  · have h := zk_it _ h c17
    refine zk_ldcw dX12_rate_17 zd_X12_282 ?_
    exact zk_ireturn dX12_rate_20 rfl (zk_rIw (Option.some.inj h))
  · have h := zk_if _ h c17
    refine zk_aload_n (i := 0) dX12_rate_9 rfl rfl ?_
    refine zk_iload_n (i := 2) dX12_rate_10 rfl rfl ?_
    refine zk_callVi zY_X12_isChild 0 12 [_] dX12_rate_11 zl_X12_isChild zc_X12_192 zk_ok12 (Nat.le_of_ble_eq_true rfl) rfl (fMd_isChild_ok (d := 1) (Nat.le_refl _) mem _ _ rfl) (Nat.lt_of_lt_of_le (by decide) hd) (Nat.le_of_ble_eq_true rfl) ?_
    refine zk_if_ne 21 dX12_rate_14 rfl (fun c16 => ?_) (fun c16 => ?_)
    · have h := zk_if _ h c16
      refine zk_iload_n (i := 1) dX12_rate_21 rfl rfl ?_
      rcases Decidable.em (a1 = (0 : Int32)) with c1 | c1
      · have h := zk_it _ h c1
        refine zk_tin (off := 34) 56 dX12_rate_22 c1 (by decide) (by decide) (by decide) rfl ?_
        refine zk_aload_n (i := 0) dX12_rate_56 rfl rfl ?_
        refine zk_iload_n (i := 2) dX12_rate_57 rfl rfl ?_
        obtain ⟨q2, hq2, h⟩ := zk_ob h
        refine zk_callVi zY_X12_childRate 0 12 [_] dX12_rate_58 zl_X12_childRate zc_X12_277 zk_ok12 (Nat.le_of_ble_eq_true rfl) rfl (fMd_childRate_ok (d := 0) (Nat.le_refl _) mem _ _ hq2) (Nat.lt_of_lt_of_le (by decide) hd) (Nat.le_of_ble_eq_true rfl) ?_
        exact zk_ireturn dX12_rate_61 rfl (zk_rIw (Option.some.inj h))
      · have h := zk_if _ h c1
        rcases Decidable.em (a1 = (1 : Int32)) with c3 | c3
        · have h := zk_it _ h c3
          refine zk_tin (off := 40) 62 dX12_rate_22 c3 (by decide) (by decide) (by decide) rfl ?_
          refine zk_aload_n (i := 0) dX12_rate_62 rfl rfl ?_
          refine zk_iload_n (i := 2) dX12_rate_63 rfl rfl ?_
          obtain ⟨q4, hq4, h⟩ := zk_ob h
          refine zk_callVi zY_X12_climberRate 0 12 [_] dX12_rate_64 zl_X12_climberRate zc_X12_283 zk_ok12 (Nat.le_of_ble_eq_true rfl) rfl (fMd_climberRate_ok (d := 1) (Nat.le_refl _) mem _ _ hq4) (Nat.lt_of_lt_of_le (by decide) hd) (Nat.le_of_ble_eq_true rfl) ?_
          exact zk_ireturn dX12_rate_67 rfl (zk_rIw (Option.some.inj h))
        · have h := zk_if _ h c3
          rcases Decidable.em (a1 = (2 : Int32)) with c5 | c5
          · have h := zk_it _ h c5
            refine zk_tin (off := 46) 68 dX12_rate_22 c5 (by decide) (by decide) (by decide) rfl ?_
            refine zk_aload_n (i := 0) dX12_rate_68 rfl rfl ?_
            refine zk_iload_n (i := 2) dX12_rate_69 rfl rfl ?_
            obtain ⟨q6, hq6, h⟩ := zk_ob h
            refine zk_callVi zY_X12_guestRate 0 12 [_] dX12_rate_70 zl_X12_guestRate zc_X12_286 zk_ok12 (Nat.le_of_ble_eq_true rfl) rfl (fMd_guestRate_ok (d := 1) (Nat.le_refl _) mem _ _ hq6) (Nat.lt_of_lt_of_le (by decide) hd) (Nat.le_of_ble_eq_true rfl) ?_
            exact zk_ireturn dX12_rate_73 rfl (zk_rIw (Option.some.inj h))
          · have h := zk_if _ h c5
            rcases Decidable.em (a1 = (3 : Int32)) with c7 | c7
            · have h := zk_it _ h c7
              refine zk_tin (off := 52) 74 dX12_rate_22 c7 (by decide) (by decide) (by decide) rfl ?_
              refine zk_aload_n (i := 0) dX12_rate_74 rfl rfl ?_
              refine zk_dup dX12_rate_75 rfl ?_
              refine zk_getL 0 12 13 dX12_rate_76 zf_X12_271 (Nat.le_of_ble_eq_true rfl) rfl rfl ?_
              refine zk_ldc2 dX12_rate_79 zd_X12_289 ?_
              refine zk_ladd dX12_rate_82 ?_
              obtain ⟨m8, em8, h⟩ := zk_lt h
              refine zk_putL' 0 12 13 dX12_rate_83 zp_X12_271 (Nat.le_of_ble_eq_true rfl) rfl rfl em8 ?_
              refine zk_iconst dX12_rate_86 zki_2 ?_
              refine zk_aload_n (i := 0) dX12_rate_87 rfl rfl ?_
              refine zk_iload_n (i := 2) dX12_rate_88 rfl rfl ?_
              obtain ⟨q9, hq9, h⟩ := zk_ob h
              refine zk_callVi zY_X12_climberRate 0 12 [_] dX12_rate_89 zl_X12_climberRate zc_X12_283 zk_ok12 (Nat.le_of_ble_eq_true rfl) rfl (fMd_climberRate_ok (d := 1) (Nat.le_refl _) m8 _ _ hq9) (Nat.lt_of_lt_of_le (by decide) hd) (Nat.le_of_ble_eq_true rfl) ?_
              refine zk_imul dX12_rate_92 ?_
              exact zk_ireturn dX12_rate_93 rfl (zk_rIw (Option.some.inj h))
            · have h := zk_if _ h c7
              rcases Decidable.em (a1 = (4 : Int32)) with c10 | c10
              · have h := zk_it _ h c10
                refine zk_tin (off := 72) 94 dX12_rate_22 c10 (by decide) (by decide) (by decide) rfl ?_
                refine zk_aload_n (i := 0) dX12_rate_94 rfl rfl ?_
                refine zk_dup dX12_rate_95 rfl ?_
                refine zk_getL 0 12 13 dX12_rate_96 zf_X12_271 (Nat.le_of_ble_eq_true rfl) rfl rfl ?_
                refine zk_ldc2 dX12_rate_99 zd_X12_291 ?_
                refine zk_ladd dX12_rate_102 ?_
                obtain ⟨m11, em11, h⟩ := zk_lt h
                refine zk_putL' 0 12 13 dX12_rate_103 zp_X12_271 (Nat.le_of_ble_eq_true rfl) rfl rfl em11 ?_
                refine zk_aload_n (i := 0) dX12_rate_106 rfl rfl ?_
                refine zk_iload_n (i := 2) dX12_rate_107 rfl rfl ?_
                obtain ⟨q12, hq12, h⟩ := zk_ob h
                refine zk_callVi zY_X12_guestRate 0 12 [_] dX12_rate_108 zl_X12_guestRate zc_X12_286 zk_ok12 (Nat.le_of_ble_eq_true rfl) rfl (fMd_guestRate_ok (d := 1) (Nat.le_refl _) m11 _ _ hq12) (Nat.lt_of_lt_of_le (by decide) hd) (Nat.le_of_ble_eq_true rfl) ?_
                refine zk_iload_n (i := 2) dX12_rate_111 rfl rfl ?_
                refine zk_iadd dX12_rate_112 ?_
                exact zk_ireturn dX12_rate_113 rfl (zk_rIw (Option.some.inj h))
              · have h := zk_if _ h c10
                have hout : (a1).toInt < 0 ∨ 4 < (a1).toInt := by
                  have := lv_neT c1 (a := 0) (by decide)
                  have := lv_neT c3 (a := 1) (by decide)
                  have := lv_neT c5 (a := 2) (by decide)
                  have := lv_neT c7 (a := 3) (by decide)
                  have := lv_neT c10 (a := 4) (by decide)
                  omega
                refine zk_tout 114 dX12_rate_22 hout rfl ?_
                refine zk_aload_n (i := 0) dX12_rate_114 rfl rfl ?_
                refine zk_dup dX12_rate_115 rfl ?_
                refine zk_getL 0 12 13 dX12_rate_116 zf_X12_271 (Nat.le_of_ble_eq_true rfl) rfl rfl ?_
                refine zk_ldc2 dX12_rate_119 zd_X12_293 ?_
                refine zk_ladd dX12_rate_122 ?_
                obtain ⟨m13, em13, h⟩ := zk_lt h
                refine zk_putL' 0 12 13 dX12_rate_123 zp_X12_271 (Nat.le_of_ble_eq_true rfl) rfl rfl em13 ?_
                refine zk_aload_n (i := 0) dX12_rate_126 rfl rfl ?_
                refine zk_iload_n (i := 2) dX12_rate_127 rfl rfl ?_
                obtain ⟨q14, hq14, h⟩ := zk_ob h
                refine zk_callVi zY_X12_childRate 0 12 [_] dX12_rate_128 zl_X12_childRate zc_X12_277 zk_ok12 (Nat.le_of_ble_eq_true rfl) rfl (fMd_childRate_ok (d := 0) (Nat.le_refl _) m13 _ _ hq14) (Nat.lt_of_lt_of_le (by decide) hd) (Nat.le_of_ble_eq_true rfl) ?_
                refine zk_aload_n (i := 0) dX12_rate_131 rfl rfl ?_
                refine zk_aload_n (i := 0) dX12_rate_132 rfl rfl ?_
                refine zk_getR 0 12 6 dX12_rate_133 zf_X12_19 (Nat.le_of_ble_eq_true rfl) rfl rfl ?_
                refine zk_bipush dX12_rate_136 zkb_6 ?_
                obtain ⟨q15, hq15, h⟩ := zk_ob h
                refine zk_callVi zY_X12_outs 0 12 [_, _] dX12_rate_138 zl_X12_outs zc_X12_212 zk_ok12 (Nat.le_of_ble_eq_true rfl) rfl (fMd_outs_4_ok (d := 0) (Nat.le_refl _) q14.2 _ _ hq15) (Nat.lt_of_lt_of_le (by decide) hd) (Nat.le_of_ble_eq_true rfl) ?_
                refine zk_iadd dX12_rate_141 ?_
                exact zk_ireturn dX12_rate_142 rfl (zk_rIw (Option.some.inj h))
    · have h := zk_it _ h c16
      refine zk_ldcw dX12_rate_17 zd_X12_282 ?_
      exact zk_ireturn dX12_rate_20 rfl (zk_rIw (Option.some.inj h))
set_option maxRecDepth 100000 in
set_option maxHeartbeats 4000000 in
theorem fMd_keep_L13_ok {d : Nat} {Z : zkZ} (hd : 1 ≤ d)  : ∀ (n : Nat) (mem : zkM) (x1 : Int32) (x2 : Int32) (z : zkM), fMd_keep_L13 n mem x1 x2 = some z → zk_J zSM d zY_X12_keep Z 42 [some (.ref 0), some (.int x1), none] [] z → zk_J zSM d zY_X12_keep Z 13 [some (.ref 0), some (.int x1), some (.int x2)] [] mem := by
  intro n
  induction n with
  | zero => intro mem x1 x2 z h; cases h
  | succ n ih =>
    intro mem x1 x2 z h he
    rw [fMd_keep_L13] at h
    refine zk_iload_n (i := 2) dX12_keep_13 rfl rfl ?_
    refine zk_bipush dX12_keep_14 zkb_42 ?_
    refine zk_icmp_ge 42 dX12_keep_16 rfl (fun c4 => ?_) (fun c4 => ?_)
    · have h := zk_it _ h c4
      cases h
      exact zk_weak (zk_leS (zk_leS (zk_leN zk_leE))) he
    · have h := zk_if _ h c4
      refine zk_aload_n (i := 0) dX12_keep_19 rfl rfl ?_
      refine zk_getR 0 12 9 dX12_keep_20 zf_X12_25 (Nat.le_of_ble_eq_true rfl) rfl rfl ?_
      refine zk_bipush dX12_keep_23 zkb_42 ?_
      refine zk_iload_n (i := 1) dX12_keep_25 rfl rfl ?_
      refine zk_imul dX12_keep_26 ?_
      refine zk_iload_n (i := 2) dX12_keep_27 rfl rfl ?_
      refine zk_iadd dX12_keep_28 ?_
      refine zk_aload_n (i := 0) dX12_keep_29 rfl rfl ?_
      refine zk_getR 0 12 6 dX12_keep_30 zf_X12_19 (Nat.le_of_ble_eq_true rfl) rfl rfl ?_
      refine zk_iload_n (i := 2) dX12_keep_33 rfl rfl ?_
      obtain ⟨b1, h⟩ := zk_gd h
      refine zk_iaload 4 42 dX12_keep_34 (Nat.le_of_ble_eq_true rfl) rfl (zk_inb_in b1) ?_
      obtain ⟨b2, h⟩ := zk_gd h
      obtain ⟨m3, em3, h⟩ := zk_lt h
      refine zk_iastore' 6 84 dX12_keep_35 (Nat.le_of_ble_eq_true rfl) rfl (zk_inb_in b2) em3 ?_
      refine zk_iinc2 dX12_keep_36 rfl zki_1 (Nat.le_of_ble_eq_true rfl) rfl ?_
      refine zk_goto 13 dX12_keep_39 rfl ?_
      exact zk_weak (zk_leS (zk_leS (zk_leS zk_leE))) (ih m3 x1 (x2 + (1 : Int32)) _ h he)
set_option maxRecDepth 100000 in
set_option maxHeartbeats 4000000 in
theorem fMd_keep_ok {d : Nat} (hd : 1 ≤ d) (mem : zkM) (a1 : Int32) (z : Int32 × zkM) (h : fMd_keep mem a1 = some z) : zk_X zSM d zY_X12_keep [.ref 0, .int a1] mem (some (.int z.1), z.2) := by
  unfold fMd_keep at h
  refine zk_meet (n := 1) (lv := [some (.ref 0), some (.int a1), none]) zpn_X12 rfl (Nat.le_of_ble_eq_true rfl) ?_
  refine zk_iload_n (i := 1) dX12_keep_0 rfl rfl ?_
  refine zk_iconst dX12_keep_1 zki_0 ?_
  refine zk_iconst dX12_keep_2 zki_1 ?_
  refine zk_callSi zY_X12_in [_, _, _] dX12_keep_3 zl_X12_in zc_X12_73 (fMd_in_ok (d := 0) (Nat.le_refl _) mem _ _ _ _ rfl) (Nat.lt_of_lt_of_le (by decide) hd) (Nat.le_of_ble_eq_true rfl) ?_
  refine zk_if_ne 11 dX12_keep_6 rfl (fun c4 => ?_) (fun c4 => ?_)
  · have h := zk_if _ h c4
    refine zk_iconst dX12_keep_11 zki_0 ?_
    refine zk_istore_n (i := 2) dX12_keep_12 rfl (Nat.le_of_ble_eq_true rfl) rfl ?_
    obtain ⟨q1, hq1, h⟩ := zk_ob h
    refine zk_weak (zk_leS (zk_leS (zk_leS zk_leE))) (fMd_keep_L13_ok hd 500 mem a1 (0 : Int32) _ hq1 ?_)
    refine zk_aload_n (i := 0) dX12_keep_42 rfl rfl ?_
    refine zk_getR 0 12 10 dX12_keep_43 zf_X12_28 (Nat.le_of_ble_eq_true rfl) rfl rfl ?_
    refine zk_iload_n (i := 1) dX12_keep_46 rfl rfl ?_
    refine zk_iconst dX12_keep_47 zki_1 ?_
    obtain ⟨b2, h⟩ := zk_gd h
    obtain ⟨m3, em3, h⟩ := zk_lt h
    refine zk_zastore' 7 2 dX12_keep_48 (Nat.le_of_ble_eq_true rfl) rfl (by decide) (zk_inb_in b2) em3 ?_
    refine zk_aload_n (i := 0) dX12_keep_49 rfl rfl ?_
    refine zk_getR 0 12 6 dX12_keep_50 zf_X12_19 (Nat.le_of_ble_eq_true rfl) rfl rfl ?_
    refine zk_iconst dX12_keep_53 zki_0 ?_
    refine zk_iaload 4 42 dX12_keep_54 (Nat.le_of_ble_eq_true rfl) rfl (zk_inb_in (by decide)) ?_
    exact zk_ireturn dX12_keep_55 rfl (zk_rIw (Option.some.inj h))
  · have h := zk_it _ h c4
    refine zk_iconst dX12_keep_9 zki_m1 ?_
    exact zk_ireturn dX12_keep_10 rfl (zk_rIw (Option.some.inj h))
set_option maxRecDepth 100000 in
set_option maxHeartbeats 4000000 in
theorem fMd_back_L25_ok {d : Nat} {Z : zkZ} (hd : 1 ≤ d)  : ∀ (n : Nat) (mem : zkM) (x1 : Int32) (x2 : Int32) (z : zkM), fMd_back_L25 n mem x1 x2 = some z → zk_J zSM d zY_X12_back Z 54 [some (.ref 0), none, none] [] z → zk_J zSM d zY_X12_back Z 25 [some (.ref 0), some (.int x1), some (.int x2)] [] mem := by
  intro n
  induction n with
  | zero => intro mem x1 x2 z h; cases h
  | succ n ih =>
    intro mem x1 x2 z h he
    rw [fMd_back_L25] at h
    refine zk_iload_n (i := 2) dX12_back_25 rfl rfl ?_
    refine zk_bipush dX12_back_26 zkb_42 ?_
    refine zk_icmp_ge 54 dX12_back_28 rfl (fun c4 => ?_) (fun c4 => ?_)
    · have h := zk_it _ h c4
      cases h
      exact zk_weak (zk_leS (zk_leN (zk_leN zk_leE))) he
    · have h := zk_if _ h c4
      refine zk_aload_n (i := 0) dX12_back_31 rfl rfl ?_
      refine zk_getR 0 12 6 dX12_back_32 zf_X12_19 (Nat.le_of_ble_eq_true rfl) rfl rfl ?_
      refine zk_iload_n (i := 2) dX12_back_35 rfl rfl ?_
      refine zk_aload_n (i := 0) dX12_back_36 rfl rfl ?_
      refine zk_getR 0 12 9 dX12_back_37 zf_X12_25 (Nat.le_of_ble_eq_true rfl) rfl rfl ?_
      refine zk_bipush dX12_back_40 zkb_42 ?_
      refine zk_iload_n (i := 1) dX12_back_42 rfl rfl ?_
      refine zk_imul dX12_back_43 ?_
      refine zk_iload_n (i := 2) dX12_back_44 rfl rfl ?_
      refine zk_iadd dX12_back_45 ?_
      obtain ⟨b1, h⟩ := zk_gd h
      refine zk_iaload 6 84 dX12_back_46 (Nat.le_of_ble_eq_true rfl) rfl (zk_inb_in b1) ?_
      obtain ⟨b2, h⟩ := zk_gd h
      obtain ⟨m3, em3, h⟩ := zk_lt h
      refine zk_iastore' 4 42 dX12_back_47 (Nat.le_of_ble_eq_true rfl) rfl (zk_inb_in b2) em3 ?_
      refine zk_iinc2 dX12_back_48 rfl zki_1 (Nat.le_of_ble_eq_true rfl) rfl ?_
      refine zk_goto 25 dX12_back_51 rfl ?_
      exact zk_weak (zk_leS (zk_leS (zk_leS zk_leE))) (ih m3 x1 (x2 + (1 : Int32)) _ h he)
set_option maxRecDepth 100000 in
set_option maxHeartbeats 4000000 in
theorem fMd_back_ok {d : Nat} (hd : 1 ≤ d) (mem : zkM) (a1 : Int32) (z : Int32 × zkM) (h : fMd_back mem a1 = some z) : zk_X zSM d zY_X12_back [.ref 0, .int a1] mem (some (.int z.1), z.2) := by
  unfold fMd_back at h
  refine zk_meet (n := 1) (lv := [some (.ref 0), some (.int a1), none]) zpn_X12 rfl (Nat.le_of_ble_eq_true rfl) ?_
  refine zk_iload_n (i := 1) dX12_back_0 rfl rfl ?_
  refine zk_iconst dX12_back_1 zki_0 ?_
  refine zk_iconst dX12_back_2 zki_1 ?_
  refine zk_callSi zY_X12_in [_, _, _] dX12_back_3 zl_X12_in zc_X12_73 (fMd_in_ok (d := 0) (Nat.le_refl _) mem _ _ _ _ rfl) (Nat.lt_of_lt_of_le (by decide) hd) (Nat.le_of_ble_eq_true rfl) ?_
  refine zk_if_ne 11 dX12_back_6 rfl (fun c5 => ?_) (fun c5 => ?_)
  · have h := zk_if _ h c5
    refine zk_aload_n (i := 0) dX12_back_11 rfl rfl ?_
    refine zk_getR 0 12 10 dX12_back_12 zf_X12_28 (Nat.le_of_ble_eq_true rfl) rfl rfl ?_
    refine zk_iload_n (i := 1) dX12_back_15 rfl rfl ?_
    obtain ⟨b1, h⟩ := zk_gd h
    refine zk_zaload 7 2 dX12_back_16 (Nat.le_of_ble_eq_true rfl) rfl (zk_inb_in b1) ?_
    refine zk_if_ne 23 dX12_back_17 rfl (fun c4 => ?_) (fun c4 => ?_)
    · have h := zk_if _ h c4
      refine zk_iconst dX12_back_23 zki_0 ?_
      refine zk_istore_n (i := 2) dX12_back_24 rfl (Nat.le_of_ble_eq_true rfl) rfl ?_
      obtain ⟨q2, hq2, h⟩ := zk_ob h
      refine zk_weak (zk_leS (zk_leS (zk_leS zk_leE))) (fMd_back_L25_ok hd 500 mem a1 (0 : Int32) _ hq2 ?_)
      refine zk_aload_n (i := 0) dX12_back_54 rfl rfl ?_
      refine zk_iconst dX12_back_55 zki_0 ?_
      obtain ⟨m3, em3, h⟩ := zk_lt h
      refine zk_putI' 0 12 8 dX12_back_56 zp_X12_142 (Nat.le_of_ble_eq_true rfl) rfl rfl em3 ?_
      refine zk_aload_n (i := 0) dX12_back_59 rfl rfl ?_
      refine zk_getR 0 12 6 dX12_back_60 zf_X12_19 (Nat.le_of_ble_eq_true rfl) rfl rfl ?_
      refine zk_iconst dX12_back_63 zki_0 ?_
      refine zk_iaload 4 42 dX12_back_64 (Nat.le_of_ble_eq_true rfl) rfl (zk_inb_in (by decide)) ?_
      exact zk_ireturn dX12_back_65 rfl (zk_rIw (Option.some.inj h))
    · have h := zk_it _ h c4
      refine zk_bipush dX12_back_20 zkb_m2 ?_
      exact zk_ireturn dX12_back_22 rfl (zk_rIw (Option.some.inj h))
  · have h := zk_it _ h c5
    refine zk_iconst dX12_back_9 zki_m1 ?_
    exact zk_ireturn dX12_back_10 rfl (zk_rIw (Option.some.inj h))
set_option maxRecDepth 100000 in
set_option maxHeartbeats 4000000 in
theorem fMd_count_ok {d : Nat} (hd : 1 ≤ d) (mem : zkM) (a1 : Int32) (z : Int32) (h : fMd_count mem a1 = some z) : zk_X zSM d zY_X12_count [.ref 0, .int a1] mem (some (.int z), mem) := by
  unfold fMd_count at h
  refine zk_meet (n := 0) (lv := [some (.ref 0), some (.int a1)]) zpn_X12 rfl (Nat.le_of_ble_eq_true rfl) ?_
  refine zk_iload_n (i := 1) dX12_count_0 rfl rfl ?_
  rcases Decidable.em (a1 = (0 : Int32)) with c1 | c1
  · have h := zk_it _ h c1
    refine zk_tin (off := 39) 40 dX12_count_1 c1 (by decide) (by decide) (by decide) rfl ?_
    refine zk_aload_n (i := 0) dX12_count_40 rfl rfl ?_
    refine zk_getI 0 12 0 dX12_count_41 zf_X12_69 (Nat.le_of_ble_eq_true rfl) rfl rfl ?_
    exact zk_ireturn dX12_count_44 rfl (zk_rI (Option.some.inj h))
  · have h := zk_if _ h c1
    rcases Decidable.em (a1 = (1 : Int32)) with c2 | c2
    · have h := zk_it _ h c2
      refine zk_tin (off := 44) 45 dX12_count_1 c2 (by decide) (by decide) (by decide) rfl ?_
      refine zk_aload_n (i := 0) dX12_count_45 rfl rfl ?_
      refine zk_getI 0 12 2 dX12_count_46 zf_X12_77 (Nat.le_of_ble_eq_true rfl) rfl rfl ?_
      exact zk_ireturn dX12_count_49 rfl (zk_rI (Option.some.inj h))
    · have h := zk_if _ h c2
      rcases Decidable.em (a1 = (2 : Int32)) with c3 | c3
      · have h := zk_it _ h c3
        refine zk_tin (off := 49) 50 dX12_count_1 c3 (by decide) (by decide) (by decide) rfl ?_
        refine zk_aload_n (i := 0) dX12_count_50 rfl rfl ?_
        refine zk_getI 0 12 4 dX12_count_51 zf_X12_80 (Nat.le_of_ble_eq_true rfl) rfl rfl ?_
        exact zk_ireturn dX12_count_54 rfl (zk_rI (Option.some.inj h))
      · have h := zk_if _ h c3
        rcases Decidable.em (a1 = (3 : Int32)) with c4 | c4
        · have h := zk_it _ h c4
          refine zk_tin (off := 54) 55 dX12_count_1 c4 (by decide) (by decide) (by decide) rfl ?_
          refine zk_aload_n (i := 0) dX12_count_55 rfl rfl ?_
          refine zk_getI 0 12 11 dX12_count_56 zf_X12_145 (Nat.le_of_ble_eq_true rfl) rfl rfl ?_
          exact zk_ireturn dX12_count_59 rfl (zk_rI (Option.some.inj h))
        · have h := zk_if _ h c4
          rcases Decidable.em (a1 = (4 : Int32)) with c5 | c5
          · have h := zk_it _ h c5
            refine zk_tin (off := 59) 60 dX12_count_1 c5 (by decide) (by decide) (by decide) rfl ?_
            refine zk_aload_n (i := 0) dX12_count_60 rfl rfl ?_
            refine zk_aload_n (i := 0) dX12_count_61 rfl rfl ?_
            refine zk_getR 0 12 6 dX12_count_62 zf_X12_19 (Nat.le_of_ble_eq_true rfl) rfl rfl ?_
            refine zk_bipush dX12_count_65 zkb_6 ?_
            obtain ⟨q6, hq6, h⟩ := zk_ob h
            refine zk_callVi zY_X12_outs 0 12 [_, _] dX12_count_67 zl_X12_outs zc_X12_212 zk_ok12 (Nat.le_of_ble_eq_true rfl) rfl (fMd_outs_4_ok (d := 0) (Nat.le_refl _) mem _ _ hq6) (Nat.lt_of_lt_of_le (by decide) hd) (Nat.le_of_ble_eq_true rfl) ?_
            exact zk_ireturn dX12_count_70 rfl (zk_rI (Option.some.inj h))
          · have h := zk_if _ h c5
            rcases Decidable.em (a1 = (5 : Int32)) with c7 | c7
            · have h := zk_it _ h c7
              refine zk_tin (off := 70) 71 dX12_count_1 c7 (by decide) (by decide) (by decide) rfl ?_
              refine zk_aload_n (i := 0) dX12_count_71 rfl rfl ?_
              refine zk_getI 0 12 15 dX12_count_72 zf_X12_83 (Nat.le_of_ble_eq_true rfl) rfl rfl ?_
              exact zk_ireturn dX12_count_75 rfl (zk_rI (Option.some.inj h))
            · have h := zk_if _ h c7
              have hout : (a1).toInt < 0 ∨ 5 < (a1).toInt := by
                have := lv_neT c1 (a := 0) (by decide)
                have := lv_neT c2 (a := 1) (by decide)
                have := lv_neT c3 (a := 2) (by decide)
                have := lv_neT c4 (a := 3) (by decide)
                have := lv_neT c5 (a := 4) (by decide)
                have := lv_neT c7 (a := 5) (by decide)
                omega
              refine zk_tout 76 dX12_count_1 hout rfl ?_
              refine zk_iconst dX12_count_76 zki_m1 ?_
              exact zk_ireturn dX12_count_77 rfl (zk_rI (Option.some.inj h))
set_option maxRecDepth 100000 in
set_option maxHeartbeats 4000000 in
theorem fMd_trace_ok {d : Nat} (hd : 0 ≤ d) (mem : zkM) (z : Int64) (h : fMd_trace mem = z) : zk_X zSM d zY_X12_trace [.ref 0] mem (some (.long z), mem) := by
  unfold fMd_trace at h
  refine zk_meet (n := 0) (lv := [some (.ref 0)]) zpn_X12 rfl (Nat.le_of_ble_eq_true rfl) ?_
  refine zk_aload_n (i := 0) dX12_trace_0 rfl rfl ?_
  refine zk_getL 0 12 13 dX12_trace_1 zf_X12_271 (Nat.le_of_ble_eq_true rfl) rfl rfl ?_
  exact zk_lreturn dX12_trace_4 rfl (zk_rL h)
set_option maxRecDepth 100000 in
set_option maxHeartbeats 4000000 in
theorem fTree_strip_ok {d : Nat} (hd : 0 ≤ d) (mem : zkM) (z : zkM) (h : fTree_strip mem = z) : zk_X zSX d zY_X10_strip [.ref 55] mem (none, z) := by
  unfold fTree_strip at h
  refine zk_meet (n := 0) (lv := [some (.ref 55)]) zpn_X10 rfl (Nat.le_of_ble_eq_true rfl) ?_
  refine zk_aload_n (i := 0) dX10_strip_0 rfl rfl ?_
  refine zk_iconst dX10_strip_1 zki_0 ?_
  obtain ⟨m1, em1, h⟩ := zk_lt h
  refine zk_putI' 55 10 0 dX10_strip_2 zp_X10_9 (Nat.le_of_ble_eq_true rfl) rfl rfl em1 ?_
  refine zk_aload_n (i := 0) dX10_strip_5 rfl rfl ?_
  refine zk_iconst dX10_strip_6 zki_0 ?_
  obtain ⟨m2, em2, h⟩ := zk_lt h
  refine zk_putI' 55 10 1 dX10_strip_7 zp_X10_15 (Nat.le_of_ble_eq_true rfl) rfl rfl em2 ?_
  refine zk_aload_n (i := 0) dX10_strip_10 rfl rfl ?_
  refine zk_iconst dX10_strip_11 zki_0 ?_
  obtain ⟨m3, em3, h⟩ := zk_lt h
  refine zk_putI' 55 10 2 dX10_strip_12 zp_X10_18 (Nat.le_of_ble_eq_true rfl) rfl rfl em3 ?_
  exact zk_vreturn dX10_strip_15 rfl (zk_rVw h)
set_option maxRecDepth 100000 in
set_option maxHeartbeats 4000000 in
theorem fScript_isDigit_ok {d : Nat} (hd : 1 ≤ d) (mem : zkM) (a0 : Int32) (z : Bool) (h : fScript_isDigit a0 = z) : zk_X zSX d zY_X9_isDigit [.int a0] mem (some (.int (zk_b z)), mem) := by
  unfold fScript_isDigit at h
  refine zk_meet (n := 0) (lv := [some (.int a0)]) zpn_X9 rfl (Nat.le_of_ble_eq_true rfl) ?_
  refine zk_iload_n (i := 0) dX9_isDigit_0 rfl rfl ?_
  refine zk_bipush dX9_isDigit_1 zkb_48 ?_
  refine zk_bipush dX9_isDigit_3 zkb_57 ?_
  refine zk_callNi zY_X11_within [_, _, _] dX9_isDigit_5 zl_X11_within zc_X9_74 (fTp_within_ok (d := 0) (Nat.le_refl _) mem _ _ _ _ rfl) (Nat.lt_of_lt_of_le (by decide) hd) (Nat.le_of_ble_eq_true rfl) ?_
  exact zk_zreturn dX9_isDigit_8 rfl (zk_nb _) (zk_rZ h)
set_option maxRecDepth 100000 in
set_option maxHeartbeats 4000000 in
theorem fScript_isMark_ok {d : Nat} (hd : 0 ≤ d) (mem : zkM) (a0 : Int32) (z : Bool) (h : fScript_isMark a0 = z) : zk_X zSX d zY_X9_isMark [.int a0] mem (some (.int (zk_b z)), mem) := by
  unfold fScript_isMark at h
  refine zk_meet (n := 0) (lv := [some (.int a0)]) zpn_X9 rfl (Nat.le_of_ble_eq_true rfl) ?_
  refine zk_iload_n (i := 0) dX9_isMark_0 rfl rfl ?_
  refine zk_bipush dX9_isMark_1 zkb_98 ?_
  refine zk_icmp_eq 24 dX9_isMark_3 rfl (fun c4 => ?_) (fun c4 => ?_)
  · have h := zk_it _ h c4
    refine zk_iconst dX9_isMark_24 zki_1 ?_
    refine zk_goto 29 dX9_isMark_25 rfl ?_
    exact zk_zreturn dX9_isMark_29 rfl rfl (zk_rZ h)
  · have h := zk_if _ h c4
    refine zk_iload_n (i := 0) dX9_isMark_6 rfl rfl ?_
    refine zk_bipush dX9_isMark_7 zkb_112 ?_
    refine zk_icmp_eq 24 dX9_isMark_9 rfl (fun c3 => ?_) (fun c3 => ?_)
    · have h := zk_it _ h c3
      refine zk_iconst dX9_isMark_24 zki_1 ?_
      refine zk_goto 29 dX9_isMark_25 rfl ?_
      exact zk_zreturn dX9_isMark_29 rfl rfl (zk_rZ h)
    · have h := zk_if _ h c3
      refine zk_iload_n (i := 0) dX9_isMark_12 rfl rfl ?_
      refine zk_bipush dX9_isMark_13 zkb_99 ?_
      refine zk_icmp_eq 24 dX9_isMark_15 rfl (fun c2 => ?_) (fun c2 => ?_)
      · have h := zk_it _ h c2
        refine zk_iconst dX9_isMark_24 zki_1 ?_
        refine zk_goto 29 dX9_isMark_25 rfl ?_
        exact zk_zreturn dX9_isMark_29 rfl rfl (zk_rZ h)
      · have h := zk_if _ h c2
        refine zk_iload_n (i := 0) dX9_isMark_18 rfl rfl ?_
        refine zk_bipush dX9_isMark_19 zkb_59 ?_
        refine zk_icmp_ne 28 dX9_isMark_21 rfl (fun c1 => ?_) (fun c1 => ?_)
        · have h := zk_if _ h c1
          refine zk_iconst dX9_isMark_28 zki_0 ?_
          exact zk_zreturn dX9_isMark_29 rfl rfl (zk_rZ h)
        · have h := zk_it _ h c1
          refine zk_iconst dX9_isMark_24 zki_1 ?_
          refine zk_goto 29 dX9_isMark_25 rfl ?_
          exact zk_zreturn dX9_isMark_29 rfl rfl (zk_rZ h)
set_option maxRecDepth 100000 in
set_option maxHeartbeats 4000000 in
theorem fScript_stepOverNumber_L5_ok {d : Nat} {Z : zkZ} (hd : 2 ≤ d)  : ∀ (n : Nat) (mem : zkM) (z : zkM), fScript_stepOverNumber_L5 n mem = some z → zk_J zSX d zY_X9_stepOverNumber Z 68 [some (.ref 1), none, none] [] z → zk_J zSX d zY_X9_stepOverNumber Z 5 [some (.ref 1), none, none] [] mem := by
  intro n
  induction n with
  | zero => intro mem z h; cases h
  | succ n ih =>
    intro mem z h he
    rw [fScript_stepOverNumber_L5] at h
    refine zk_aload_n (i := 0) dX9_stepOverNumber_5 rfl rfl ?_
    refine zk_getI 1 9 2 dX9_stepOverNumber_6 zf_X9_19 (Nat.le_of_ble_eq_true rfl) rfl rfl ?_
    refine zk_aload_n (i := 0) dX9_stepOverNumber_9 rfl rfl ?_
    refine zk_getI 1 9 1 dX9_stepOverNumber_10 zf_X9_15 (Nat.le_of_ble_eq_true rfl) rfl rfl ?_
    refine zk_icmp_ge 68 dX9_stepOverNumber_13 rfl (fun c6 => ?_) (fun c6 => ?_)
    · have h := zk_it _ h c6
      cases h
      exact zk_weak (zk_leS (zk_leN (zk_leN zk_leE))) he
    · have h := zk_if _ h c6
      refine zk_aload_n (i := 0) dX9_stepOverNumber_16 rfl rfl ?_
      refine zk_getR 1 9 0 dX9_stepOverNumber_17 zf_X9_9 (Nat.le_of_ble_eq_true rfl) rfl rfl ?_
      refine zk_aload_n (i := 0) dX9_stepOverNumber_20 rfl rfl ?_
      refine zk_getI 1 9 2 dX9_stepOverNumber_21 zf_X9_19 (Nat.le_of_ble_eq_true rfl) rfl rfl ?_
      obtain ⟨b1, h⟩ := zk_gd h
      refine zk_iaload 2 200 dX9_stepOverNumber_24 (Nat.le_of_ble_eq_true rfl) rfl (zk_inb_in b1) ?_
      refine zk_callSi zY_X9_isDigit [_] dX9_stepOverNumber_25 zl_X9_isDigit zc_X9_95 (fScript_isDigit_ok (d := 1) (Nat.le_refl _) mem _ _ rfl) (Nat.lt_of_lt_of_le (by decide) hd) (Nat.le_of_ble_eq_true rfl) ?_
      refine zk_if_eq 68 dX9_stepOverNumber_28 rfl (fun c5 => ?_) (fun c5 => ?_)
      · have h := zk_it _ h c5
        cases h
        exact zk_weak (zk_leS (zk_leN (zk_leN zk_leE))) he
      · have h := zk_if _ h c5
        refine zk_aload_n (i := 0) dX9_stepOverNumber_31 rfl rfl ?_
        refine zk_aload_n (i := 0) dX9_stepOverNumber_32 rfl rfl ?_
        refine zk_getI 1 9 5 dX9_stepOverNumber_33 zf_X9_28 (Nat.le_of_ble_eq_true rfl) rfl rfl ?_
        refine zk_bipush dX9_stepOverNumber_36 zkb_10 ?_
        refine zk_imul dX9_stepOverNumber_38 ?_
        refine zk_aload_n (i := 0) dX9_stepOverNumber_39 rfl rfl ?_
        refine zk_getR 1 9 0 dX9_stepOverNumber_40 zf_X9_9 (Nat.le_of_ble_eq_true rfl) rfl rfl ?_
        refine zk_aload_n (i := 0) dX9_stepOverNumber_43 rfl rfl ?_
        refine zk_getI 1 9 2 dX9_stepOverNumber_44 zf_X9_19 (Nat.le_of_ble_eq_true rfl) rfl rfl ?_
        obtain ⟨b2, h⟩ := zk_gd h
        refine zk_iaload 2 200 dX9_stepOverNumber_47 (Nat.le_of_ble_eq_true rfl) rfl (zk_inb_in b2) ?_
        refine zk_iadd dX9_stepOverNumber_48 ?_
        refine zk_bipush dX9_stepOverNumber_49 zkb_48 ?_
        refine zk_isub dX9_stepOverNumber_51 ?_
        obtain ⟨m3, em3, h⟩ := zk_lt h
        refine zk_putI' 1 9 5 dX9_stepOverNumber_52 zp_X9_28 (Nat.le_of_ble_eq_true rfl) rfl rfl em3 ?_
        refine zk_aload_n (i := 0) dX9_stepOverNumber_55 rfl rfl ?_
        refine zk_dup dX9_stepOverNumber_56 rfl ?_
        refine zk_getI 1 9 2 dX9_stepOverNumber_57 zf_X9_19 (Nat.le_of_ble_eq_true rfl) rfl rfl ?_
        refine zk_iconst dX9_stepOverNumber_60 zki_1 ?_
        refine zk_iadd dX9_stepOverNumber_61 ?_
        obtain ⟨m4, em4, h⟩ := zk_lt h
        refine zk_putI' 1 9 2 dX9_stepOverNumber_62 zp_X9_19 (Nat.le_of_ble_eq_true rfl) rfl rfl em4 ?_
        refine zk_goto 5 dX9_stepOverNumber_65 rfl ?_
        exact zk_weak (zk_leS (zk_leN (zk_leN zk_leE))) (ih m4  _ h he)
