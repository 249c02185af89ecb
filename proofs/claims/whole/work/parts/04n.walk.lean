set_option maxRecDepth 100000 in
set_option maxHeartbeats 4000000 in
theorem fScript_stepOverNumber_ok {d : Nat} (hd : 2 ≤ d) (mem : zkM) (z : zkM) (h : fScript_stepOverNumber mem = some z) : zk_X zSX d zY_X9_stepOverNumber [.ref 1] mem (none, z) := by
  unfold fScript_stepOverNumber at h
  refine zk_meet (n := 2) (lv := [some (.ref 1), none, none]) zpn_X9 rfl (Nat.le_of_ble_eq_true rfl) ?_
  refine zk_aload_n (i := 0) dX9_stepOverNumber_0 rfl rfl ?_
  refine zk_iconst dX9_stepOverNumber_1 zki_0 ?_
  obtain ⟨m1, em1, h⟩ := zk_lt h
  refine zk_putI' 1 9 5 dX9_stepOverNumber_2 zp_X9_28 (Nat.le_of_ble_eq_true rfl) rfl rfl em1 ?_
  obtain ⟨q2, hq2, h⟩ := zk_ob h
  refine zk_weak (zk_leS (zk_leN (zk_leN zk_leE))) (fScript_stepOverNumber_L5_ok hd 500 m1  _ hq2 ?_)
  refine zk_aload_n (i := 0) dX9_stepOverNumber_68 rfl rfl ?_
  refine zk_getI 1 9 2 dX9_stepOverNumber_69 zf_X9_19 (Nat.le_of_ble_eq_true rfl) rfl rfl ?_
  refine zk_aload_n (i := 0) dX9_stepOverNumber_72 rfl rfl ?_
  refine zk_getI 1 9 3 dX9_stepOverNumber_73 zf_X9_22 (Nat.le_of_ble_eq_true rfl) rfl rfl ?_
  refine zk_isub dX9_stepOverNumber_76 ?_
  obtain ⟨v3, ev3, h⟩ := zk_lt h
  refine zk_istore_n' (i := 1) dX9_stepOverNumber_77 rfl ev3 (Nat.le_of_ble_eq_true rfl) rfl ?_
  refine zk_iload_n (i := 1) dX9_stepOverNumber_78 rfl rfl ?_
  refine zk_iconst dX9_stepOverNumber_79 zki_1 ?_
  obtain ⟨q4, hq4, h⟩ := zk_ob h
  have Jq4 : zk_J zSX d zY_X9_stepOverNumber (zk_R zSX (none, z)) 107 [some (.ref 1), none, none] [.int (zk_b q4)] q2 := by
    refine zk_istore_n (i := 2) dX9_stepOverNumber_107 rfl (Nat.le_of_ble_eq_true rfl) rfl ?_
    refine zk_aload_n (i := 0) dX9_stepOverNumber_108 rfl rfl ?_
    refine zk_iload_n (i := 2) dX9_stepOverNumber_109 rfl rfl ?_
    refine zk_if_eq 117 dX9_stepOverNumber_110 rfl (fun c11 => ?_) (fun c11 => ?_)
    · have h := zk_it _ h c11
      refine zk_iconst dX9_stepOverNumber_117 zki_2 ?_
      obtain ⟨m9, em9, h⟩ := zk_lt h
      refine zk_putI' 1 9 4 dX9_stepOverNumber_118 zp_X9_25 (Nat.le_of_ble_eq_true rfl) rfl rfl em9 ?_
      exact zk_vreturn dX9_stepOverNumber_121 rfl (zk_rVw (Option.some.inj h))
    · have h := zk_if _ h c11
      refine zk_iconst dX9_stepOverNumber_113 zki_1 ?_
      refine zk_goto 118 dX9_stepOverNumber_114 rfl ?_
      obtain ⟨m10, em10, h⟩ := zk_lt h
      refine zk_putI' 1 9 4 dX9_stepOverNumber_118 zp_X9_25 (Nat.le_of_ble_eq_true rfl) rfl rfl em10 ?_
      exact zk_vreturn dX9_stepOverNumber_121 rfl (zk_rVw (Option.some.inj h))
  have h := hq4
  clear hq4
  refine zk_icmp_eq 102 dX9_stepOverNumber_80 rfl (fun c8 => ?_) (fun c8 => ?_)
  · have h := zk_it _ h c8
    refine zk_iconst dX9_stepOverNumber_102 zki_1 ?_
    refine zk_goto 107 dX9_stepOverNumber_103 rfl ?_
    cases h
    exact zk_weak (zk_leS (zk_leN (zk_leN zk_leE))) Jq4
  · have h := zk_if _ h c8
    refine zk_iload_n (i := 1) dX9_stepOverNumber_83 rfl rfl ?_
    refine zk_iconst dX9_stepOverNumber_84 zki_2 ?_
    refine zk_icmp_ne 106 dX9_stepOverNumber_85 rfl (fun c7 => ?_) (fun c7 => ?_)
    · have h := zk_if _ h c7
      refine zk_iconst dX9_stepOverNumber_106 zki_0 ?_
      cases h
      exact zk_weak (zk_leS (zk_leN (zk_leN zk_leE))) Jq4
    · have h := zk_it _ h c7
      refine zk_aload_n (i := 0) dX9_stepOverNumber_88 rfl rfl ?_
      refine zk_getR 1 9 0 dX9_stepOverNumber_89 zf_X9_9 (Nat.le_of_ble_eq_true rfl) rfl rfl ?_
      refine zk_aload_n (i := 0) dX9_stepOverNumber_92 rfl rfl ?_
      refine zk_getI 1 9 3 dX9_stepOverNumber_93 zf_X9_22 (Nat.le_of_ble_eq_true rfl) rfl rfl ?_
      obtain ⟨b5, h⟩ := zk_gd h
      refine zk_iaload 2 200 dX9_stepOverNumber_96 (Nat.le_of_ble_eq_true rfl) rfl (zk_inb_in b5) ?_
      refine zk_bipush dX9_stepOverNumber_97 zkb_48 ?_
      refine zk_icmp_eq 106 dX9_stepOverNumber_99 rfl (fun c6 => ?_) (fun c6 => ?_)
      · have h := zk_it _ h c6
        refine zk_iconst dX9_stepOverNumber_106 zki_0 ?_
        cases h
        exact zk_weak (zk_leS (zk_leN (zk_leN zk_leE))) Jq4
      · have h := zk_if _ h c6
        refine zk_iconst dX9_stepOverNumber_102 zki_1 ?_
        refine zk_goto 107 dX9_stepOverNumber_103 rfl ?_
        cases h
        exact zk_weak (zk_leS (zk_leN (zk_leN zk_leE))) Jq4
set_option maxRecDepth 100000 in
set_option maxHeartbeats 4000000 in
theorem fScript_step_L0_ok {d : Nat} {Z : zkZ} (hd : 3 ≤ d)  : ∀ (n : Nat) (mem : zkM) (z : zkM), fScript_step_L0 n mem = some z → zk_J zSX d zY_X9_step Z 38 [some (.ref 1)] [] z → zk_J zSX d zY_X9_step Z 0 [some (.ref 1)] [] mem := by
  intro n
  induction n with
  | zero => intro mem z h; cases h
  | succ n ih =>
    intro mem z h he
    rw [fScript_step_L0] at h
    refine zk_aload_n (i := 0) dX9_step_0 rfl rfl ?_
    refine zk_getI 1 9 2 dX9_step_1 zf_X9_19 (Nat.le_of_ble_eq_true rfl) rfl rfl ?_
    refine zk_aload_n (i := 0) dX9_step_4 rfl rfl ?_
    refine zk_getI 1 9 1 dX9_step_5 zf_X9_15 (Nat.le_of_ble_eq_true rfl) rfl rfl ?_
    refine zk_icmp_ge 38 dX9_step_8 rfl (fun c4 => ?_) (fun c4 => ?_)
    · have h := zk_it _ h c4
      cases h
      exact zk_weak (zk_leS zk_leE) he
    · have h := zk_if _ h c4
      refine zk_aload_n (i := 0) dX9_step_11 rfl rfl ?_
      refine zk_getR 1 9 0 dX9_step_12 zf_X9_9 (Nat.le_of_ble_eq_true rfl) rfl rfl ?_
      refine zk_aload_n (i := 0) dX9_step_15 rfl rfl ?_
      refine zk_getI 1 9 2 dX9_step_16 zf_X9_19 (Nat.le_of_ble_eq_true rfl) rfl rfl ?_
      obtain ⟨b1, h⟩ := zk_gd h
      refine zk_iaload 2 200 dX9_step_19 (Nat.le_of_ble_eq_true rfl) rfl (zk_inb_in b1) ?_
      refine zk_bipush dX9_step_20 zkb_32 ?_
      refine zk_icmp_ne 38 dX9_step_22 rfl (fun c3 => ?_) (fun c3 => ?_)
      · have h := zk_if _ h c3
        cases h
        exact zk_weak (zk_leS zk_leE) he
      · have h := zk_it _ h c3
        refine zk_aload_n (i := 0) dX9_step_25 rfl rfl ?_
        refine zk_dup dX9_step_26 rfl ?_
        refine zk_getI 1 9 2 dX9_step_27 zf_X9_19 (Nat.le_of_ble_eq_true rfl) rfl rfl ?_
        refine zk_iconst dX9_step_30 zki_1 ?_
        refine zk_iadd dX9_step_31 ?_
        obtain ⟨m2, em2, h⟩ := zk_lt h
        refine zk_putI' 1 9 2 dX9_step_32 zp_X9_19 (Nat.le_of_ble_eq_true rfl) rfl rfl em2 ?_
        refine zk_goto 0 dX9_step_35 rfl ?_
        exact zk_weak (zk_leS zk_leE) (ih m2  _ h he)
set_option maxRecDepth 100000 in
set_option maxHeartbeats 4000000 in
theorem fScript_step_ok {d : Nat} (hd : 3 ≤ d) (mem : zkM) (z : zkM) (h : fScript_step mem = some z) : zk_X zSX d zY_X9_step [.ref 1] mem (none, z) := by
  unfold fScript_step at h
  refine zk_meet (n := 0) (lv := [some (.ref 1)]) zpn_X9 rfl (Nat.le_of_ble_eq_true rfl) ?_
  obtain ⟨q1, hq1, h⟩ := zk_ob h
  refine zk_weak (zk_leS zk_leE) (fScript_step_L0_ok hd 500 mem  _ hq1 ?_)
  refine zk_aload_n (i := 0) dX9_step_38 rfl rfl ?_
  refine zk_aload_n (i := 0) dX9_step_39 rfl rfl ?_
  refine zk_getI 1 9 2 dX9_step_40 zf_X9_19 (Nat.le_of_ble_eq_true rfl) rfl rfl ?_
  obtain ⟨m2, em2, h⟩ := zk_lt h
  refine zk_putI' 1 9 3 dX9_step_43 zp_X9_22 (Nat.le_of_ble_eq_true rfl) rfl rfl em2 ?_
  refine zk_aload_n (i := 0) dX9_step_46 rfl rfl ?_
  refine zk_getI 1 9 2 dX9_step_47 zf_X9_19 (Nat.le_of_ble_eq_true rfl) rfl rfl ?_
  refine zk_aload_n (i := 0) dX9_step_50 rfl rfl ?_
  refine zk_getI 1 9 1 dX9_step_51 zf_X9_15 (Nat.le_of_ble_eq_true rfl) rfl rfl ?_
  refine zk_icmp_lt 65 dX9_step_54 rfl (fun c13 => ?_) (fun c13 => ?_)
  · have h := zk_it _ h c13
    refine zk_aload_n (i := 0) dX9_step_65 rfl rfl ?_
    refine zk_getR 1 9 0 dX9_step_66 zf_X9_9 (Nat.le_of_ble_eq_true rfl) rfl rfl ?_
    refine zk_aload_n (i := 0) dX9_step_69 rfl rfl ?_
    refine zk_getI 1 9 2 dX9_step_70 zf_X9_19 (Nat.le_of_ble_eq_true rfl) rfl rfl ?_
    obtain ⟨b3, h⟩ := zk_gd h
    refine zk_iaload 2 200 dX9_step_73 (Nat.le_of_ble_eq_true rfl) rfl (zk_inb_in b3) ?_
    refine zk_callSi zY_X9_isDigit [_] dX9_step_74 zl_X9_isDigit zc_X9_95 (fScript_isDigit_ok (d := 1) (Nat.le_refl _) m2 _ _ rfl) (Nat.lt_of_lt_of_le (by decide) hd) (Nat.le_of_ble_eq_true rfl) ?_
    refine zk_if_eq 87 dX9_step_77 rfl (fun c11 => ?_) (fun c11 => ?_)
    · have h := zk_it _ h c11
      refine zk_aload_n (i := 0) dX9_step_87 rfl rfl ?_
      refine zk_aload_n (i := 0) dX9_step_88 rfl rfl ?_
      refine zk_getR 1 9 0 dX9_step_89 zf_X9_9 (Nat.le_of_ble_eq_true rfl) rfl rfl ?_
      refine zk_aload_n (i := 0) dX9_step_92 rfl rfl ?_
      refine zk_getI 1 9 2 dX9_step_93 zf_X9_19 (Nat.le_of_ble_eq_true rfl) rfl rfl ?_
      obtain ⟨b4, h⟩ := zk_gd h
      refine zk_iaload 2 200 dX9_step_96 (Nat.le_of_ble_eq_true rfl) rfl (zk_inb_in b4) ?_
      refine zk_callSi zY_X9_isMark [_] dX9_step_97 zl_X9_isMark zc_X9_101 (fScript_isMark_ok (d := 0) (Nat.le_refl _) m2 _ _ rfl) (Nat.lt_of_lt_of_le (by decide) hd) (Nat.le_of_ble_eq_true rfl) ?_
      obtain ⟨q5, hq5, h⟩ := zk_ob h
      have Jq5 : zk_J zSX d zY_X9_step (zk_R zSX (none, z)) 116 [some (.ref 1)] [.int q5, .ref 1] m2 := by
        obtain ⟨m8, em8, h⟩ := zk_lt h
        refine zk_putI' 1 9 4 dX9_step_116 zp_X9_25 (Nat.le_of_ble_eq_true rfl) rfl rfl em8 ?_
        refine zk_aload_n (i := 0) dX9_step_119 rfl rfl ?_
        refine zk_dup dX9_step_120 rfl ?_
        refine zk_getI 1 9 2 dX9_step_121 zf_X9_19 (Nat.le_of_ble_eq_true rfl) rfl rfl ?_
        refine zk_iconst dX9_step_124 zki_1 ?_
        refine zk_iadd dX9_step_125 ?_
        obtain ⟨m9, em9, h⟩ := zk_lt h
        refine zk_putI' 1 9 2 dX9_step_126 zp_X9_19 (Nat.le_of_ble_eq_true rfl) rfl rfl em9 ?_
        exact zk_vreturn dX9_step_129 rfl (zk_rVw (Option.some.inj h))
      have h := hq5
      clear hq5
      refine zk_if_eq 115 dX9_step_100 rfl (fun c7 => ?_) (fun c7 => ?_)
      · have h := zk_it _ h c7
        refine zk_iconst dX9_step_115 zki_2 ?_
        cases h
        exact zk_weak (zk_leS zk_leE) Jq5
      · have h := zk_if _ h c7
        refine zk_aload_n (i := 0) dX9_step_103 rfl rfl ?_
        refine zk_getR 1 9 0 dX9_step_104 zf_X9_9 (Nat.le_of_ble_eq_true rfl) rfl rfl ?_
        refine zk_aload_n (i := 0) dX9_step_107 rfl rfl ?_
        refine zk_getI 1 9 2 dX9_step_108 zf_X9_19 (Nat.le_of_ble_eq_true rfl) rfl rfl ?_
        obtain ⟨b6, h⟩ := zk_gd h
        refine zk_iaload 2 200 dX9_step_111 (Nat.le_of_ble_eq_true rfl) rfl (zk_inb_in b6) ?_
        refine zk_goto 116 dX9_step_112 rfl ?_
        cases h
        exact zk_weak (zk_leS zk_leE) Jq5
    · have h := zk_if _ h c11
      refine zk_aload_n (i := 0) dX9_step_80 rfl rfl ?_
      obtain ⟨q10, hq10, h⟩ := zk_ob h
      refine zk_callVv zY_X9_stepOverNumber 1 9 [] dX9_step_81 zl_X9_stepOverNumber zc_X9_98 zk_ok9 (Nat.le_of_ble_eq_true rfl) rfl (fScript_stepOverNumber_ok (d := 2) (Nat.le_refl _) m2  _ hq10) (Nat.lt_of_lt_of_le (by decide) hd) (Nat.le_of_ble_eq_true rfl) ?_
      refine zk_goto 129 dX9_step_84 rfl ?_
      exact zk_vreturn dX9_step_129 rfl (zk_rVw (Option.some.inj h))
  · have h := zk_if _ h c13
    refine zk_aload_n (i := 0) dX9_step_57 rfl rfl ?_
    refine zk_iconst dX9_step_58 zki_0 ?_
    obtain ⟨m12, em12, h⟩ := zk_lt h
    refine zk_putI' 1 9 4 dX9_step_59 zp_X9_25 (Nat.le_of_ble_eq_true rfl) rfl rfl em12 ?_
    refine zk_goto 129 dX9_step_62 rfl ?_
    exact zk_vreturn dX9_step_129 rfl (zk_rVw (Option.some.inj h))
set_option maxRecDepth 100000 in
set_option maxHeartbeats 4000000 in
theorem fTree_hasRoomFor_ok {d : Nat} (hd : 0 ≤ d) (mem : zkM) (a1 : Int32) (z : Bool) (h : fTree_hasRoomFor mem a1 = z) : zk_X zSX d zY_X10_hasRoomFor [.ref 55, .int a1] mem (some (.int (zk_b z)), mem) := by
  unfold fTree_hasRoomFor at h
  refine zk_meet (n := 0) (lv := [some (.ref 55), some (.int a1)]) zpn_X10 rfl (Nat.le_of_ble_eq_true rfl) ?_
  refine zk_iload_n (i := 1) dX10_hasRoomFor_0 rfl rfl ?_
  rcases Decidable.em (a1 = (98 : Int32)) with c1 | c1
  · have h := zk_it _ h c1
    refine zk_lsw (off := 35) 36 dX10_hasRoomFor_1 (by decide) (by rw [c1]; decide) rfl ?_
    refine zk_aload_n (i := 0) dX10_hasRoomFor_36 rfl rfl ?_
    refine zk_getI 55 10 0 dX10_hasRoomFor_37 zf_X10_9 (Nat.le_of_ble_eq_true rfl) rfl rfl ?_
    refine zk_bipush dX10_hasRoomFor_40 zkb_8 ?_
    refine zk_icmp_ge 49 dX10_hasRoomFor_42 rfl (fun c2 => ?_) (fun c2 => ?_)
    · have h := zk_it _ h c2
      refine zk_iconst dX10_hasRoomFor_49 zki_0 ?_
      exact zk_zreturn dX10_hasRoomFor_50 rfl rfl (zk_rZ h)
    · have h := zk_if _ h c2
      refine zk_iconst dX10_hasRoomFor_45 zki_1 ?_
      refine zk_goto 50 dX10_hasRoomFor_46 rfl ?_
      exact zk_zreturn dX10_hasRoomFor_50 rfl rfl (zk_rZ h)
  · have h := zk_if _ h c1
    rcases Decidable.em (a1 = (99 : Int32)) with c3 | c3
    · have h := zk_it _ h c3
      refine zk_lsw (off := 65) 66 dX10_hasRoomFor_1 (by decide) (by rw [c3]; decide) rfl ?_
      refine zk_aload_n (i := 0) dX10_hasRoomFor_66 rfl rfl ?_
      refine zk_getI 55 10 2 dX10_hasRoomFor_67 zf_X10_18 (Nat.le_of_ble_eq_true rfl) rfl rfl ?_
      refine zk_iconst dX10_hasRoomFor_70 zki_5 ?_
      refine zk_icmp_ge 78 dX10_hasRoomFor_71 rfl (fun c4 => ?_) (fun c4 => ?_)
      · have h := zk_it _ h c4
        refine zk_iconst dX10_hasRoomFor_78 zki_0 ?_
        exact zk_zreturn dX10_hasRoomFor_79 rfl rfl (zk_rZ h)
      · have h := zk_if _ h c4
        refine zk_iconst dX10_hasRoomFor_74 zki_1 ?_
        refine zk_goto 79 dX10_hasRoomFor_75 rfl ?_
        exact zk_zreturn dX10_hasRoomFor_79 rfl rfl (zk_rZ h)
    · have h := zk_if _ h c3
      rcases Decidable.em (a1 = (112 : Int32)) with c5 | c5
      · have h := zk_it _ h c5
        refine zk_lsw (off := 50) 51 dX10_hasRoomFor_1 (by decide) (by rw [c5]; decide) rfl ?_
        refine zk_aload_n (i := 0) dX10_hasRoomFor_51 rfl rfl ?_
        refine zk_getI 55 10 1 dX10_hasRoomFor_52 zf_X10_15 (Nat.le_of_ble_eq_true rfl) rfl rfl ?_
        refine zk_bipush dX10_hasRoomFor_55 zkb_6 ?_
        refine zk_icmp_ge 64 dX10_hasRoomFor_57 rfl (fun c6 => ?_) (fun c6 => ?_)
        · have h := zk_it _ h c6
          refine zk_iconst dX10_hasRoomFor_64 zki_0 ?_
          exact zk_zreturn dX10_hasRoomFor_65 rfl rfl (zk_rZ h)
        · have h := zk_if _ h c6
          refine zk_iconst dX10_hasRoomFor_60 zki_1 ?_
          refine zk_goto 65 dX10_hasRoomFor_61 rfl ?_
          exact zk_zreturn dX10_hasRoomFor_65 rfl rfl (zk_rZ h)
      · have h := zk_if _ h c5
        refine zk_lsw (off := 79) 80 dX10_hasRoomFor_1 (by decide) ((lv_osw c1 (by decide)).trans ((lv_osw c3 (by decide)).trans ((lv_osw c5 (by decide)).trans rfl))) rfl ?_
        refine zk_iconst dX10_hasRoomFor_80 zki_0 ?_
        exact zk_zreturn dX10_hasRoomFor_81 rfl rfl (zk_rZ h)
set_option maxRecDepth 100000 in
set_option maxHeartbeats 4000000 in
theorem fScript_numbersOf_ok {d : Nat} (hd : 0 ≤ d) (mem : zkM) (a0 : Int32) (z : Int32) (h : fScript_numbersOf a0 = z) : zk_X zSX d zY_X9_numbersOf [.int a0] mem (some (.int z), mem) := by
  unfold fScript_numbersOf at h
  refine zk_meet (n := 0) (lv := [some (.int a0)]) zpn_X9 rfl (Nat.le_of_ble_eq_true rfl) ?_
  refine zk_iload_n (i := 0) dX9_numbersOf_0 rfl rfl ?_
  rcases Decidable.em (a0 = (98 : Int32)) with c1 | c1
  · have h := zk_it _ h c1
    refine zk_lsw (off := 35) 36 dX9_numbersOf_1 (by decide) (by rw [c1]; decide) rfl ?_
    refine zk_gets 0 dX9_numbersOf_36 rfl zs_X9_65 ?_
    refine zk_alenR 0 dX9_numbersOf_39 rfl (v := 3) (by decide) ?_
    exact zk_ireturn dX9_numbersOf_40 rfl (zk_rI h)
  · have h := zk_if _ h c1
    rcases Decidable.em (a0 = (99 : Int32)) with c2 | c2
    · have h := zk_it _ h c2
      refine zk_lsw (off := 45) 46 dX9_numbersOf_1 (by decide) (by rw [c2]; decide) rfl ?_
      refine zk_gets 4 dX9_numbersOf_46 rfl zs_X9_68 ?_
      refine zk_alenR 4 dX9_numbersOf_49 rfl (v := 2) (by decide) ?_
      exact zk_ireturn dX9_numbersOf_50 rfl (zk_rI h)
    · have h := zk_if _ h c2
      rcases Decidable.em (a0 = (112 : Int32)) with c3 | c3
      · have h := zk_it _ h c3
        refine zk_lsw (off := 40) 41 dX9_numbersOf_1 (by decide) (by rw [c3]; decide) rfl ?_
        refine zk_gets 2 dX9_numbersOf_41 rfl zs_X9_31 ?_
        refine zk_alenR 2 dX9_numbersOf_44 rfl (v := 5) (by decide) ?_
        exact zk_ireturn dX9_numbersOf_45 rfl (zk_rI h)
      · have h := zk_if _ h c3
        refine zk_lsw (off := 50) 51 dX9_numbersOf_1 (by decide) ((lv_osw c1 (by decide)).trans ((lv_osw c2 (by decide)).trans ((lv_osw c3 (by decide)).trans rfl))) rfl ?_
        refine zk_iconst dX9_numbersOf_51 zki_0 ?_
        exact zk_ireturn dX9_numbersOf_52 rfl (zk_rI h)
set_option maxRecDepth 100000 in
set_option maxHeartbeats 4000000 in
theorem fTree_farApart_ok {d : Nat} (hd : 0 ≤ d) (mem : zkM) (a1 : Int32) (a2 : Int32) (z : Bool) (h : fTree_farApart mem a1 a2 = some z) : zk_X zSX d zY_X10_farApart [.ref 55, .int a1, .int a2] mem (some (.int (zk_b z)), mem) := by
  unfold fTree_farApart at h
  refine zk_meet (n := 0) (lv := [some (.ref 55), some (.int a1), some (.int a2)]) zpn_X10 rfl (Nat.le_of_ble_eq_true rfl) ?_
  refine zk_aload_n (i := 0) dX10_farApart_0 rfl rfl ?_
  refine zk_getR 55 10 3 dX10_farApart_1 zf_X10_21 (Nat.le_of_ble_eq_true rfl) rfl rfl ?_
  refine zk_iload_n (i := 1) dX10_farApart_4 rfl rfl ?_
  obtain ⟨b1, h⟩ := zk_gd h
  refine zk_iaload 56 8 dX10_farApart_5 (Nat.le_of_ble_eq_true rfl) rfl (zk_inb_in b1) ?_
  refine zk_aload_n (i := 0) dX10_farApart_6 rfl rfl ?_
  refine zk_getR 55 10 3 dX10_farApart_7 zf_X10_21 (Nat.le_of_ble_eq_true rfl) rfl rfl ?_
  refine zk_iload_n (i := 2) dX10_farApart_10 rfl rfl ?_
  obtain ⟨b2, h⟩ := zk_gd h
  refine zk_iaload 56 8 dX10_farApart_11 (Nat.le_of_ble_eq_true rfl) rfl (zk_inb_in b2) ?_
  refine zk_isub dX10_farApart_12 ?_
  refine zk_mabs dX10_farApart_13 zc_X10_50 zm_abs (Nat.le_of_ble_eq_true rfl) ?_
  refine zk_iconst dX10_farApart_16 zki_2 ?_
  refine zk_icmp_le 24 dX10_farApart_17 rfl (fun c3 => ?_) (fun c3 => ?_)
  · have h := zk_it _ h c3
    refine zk_iconst dX10_farApart_24 zki_0 ?_
    exact zk_zreturn dX10_farApart_25 rfl rfl (zk_rZ (Option.some.inj h))
  · have h := zk_if _ h c3
    refine zk_iconst dX10_farApart_20 zki_1 ?_
    refine zk_goto 25 dX10_farApart_21 rfl ?_
    exact zk_zreturn dX10_farApart_25 rfl rfl (zk_rZ (Option.some.inj h))
set_option maxRecDepth 100000 in
set_option maxHeartbeats 4000000 in
theorem fScript_mayBeUnder_ok {d : Nat} (hd : 1 ≤ d) (mem : zkM) (a2 : Int32) (z : Bool) (h : fScript_mayBeUnder mem a2 = some z) : zk_X zSX d zY_X9_mayBeUnder [.ref 1, .ref 55, .int a2] mem (some (.int (zk_b z)), mem) := by
  unfold fScript_mayBeUnder at h
  refine zk_meet (n := 0) (lv := [some (.ref 1), some (.ref 55), some (.int a2)]) zpn_X9 rfl (Nat.le_of_ble_eq_true rfl) ?_
  refine zk_aload_n (i := 0) dX9_mayBeUnder_0 rfl rfl ?_
  refine zk_getI 1 9 5 dX9_mayBeUnder_1 zf_X9_28 (Nat.le_of_ble_eq_true rfl) rfl rfl ?_
  refine zk_aload_n (i := 1) dX9_mayBeUnder_4 rfl rfl ?_
  refine zk_getI 55 10 0 dX9_mayBeUnder_5 zf_X9_88 (Nat.le_of_ble_eq_true rfl) rfl rfl ?_
  refine zk_icmp_lt 13 dX9_mayBeUnder_8 rfl (fun c5 => ?_) (fun c5 => ?_)
  · have h := zk_it _ h c5
    refine zk_iload_n (i := 2) dX9_mayBeUnder_13 rfl rfl ?_
    refine zk_if_eq 47 dX9_mayBeUnder_14 rfl (fun c4 => ?_) (fun c4 => ?_)
    · have h := zk_it _ h c4
      refine zk_iconst dX9_mayBeUnder_47 zki_1 ?_
      refine zk_goto 52 dX9_mayBeUnder_48 rfl ?_
      exact zk_zreturn dX9_mayBeUnder_52 rfl rfl (zk_rZ (Option.some.inj h))
    · have h := zk_if _ h c4
      refine zk_aload_n (i := 0) dX9_mayBeUnder_17 rfl rfl ?_
      refine zk_getI 1 9 5 dX9_mayBeUnder_18 zf_X9_28 (Nat.le_of_ble_eq_true rfl) rfl rfl ?_
      refine zk_aload_n (i := 0) dX9_mayBeUnder_21 rfl rfl ?_
      refine zk_getR 1 9 6 dX9_mayBeUnder_22 zf_X9_34 (Nat.le_of_ble_eq_true rfl) rfl rfl ?_
      refine zk_iconst dX9_mayBeUnder_25 zki_0 ?_
      refine zk_iaload 3 5 dX9_mayBeUnder_26 (Nat.le_of_ble_eq_true rfl) rfl (zk_inb_in (by decide)) ?_
      refine zk_icmp_eq 51 dX9_mayBeUnder_27 rfl (fun c3 => ?_) (fun c3 => ?_)
      · have h := zk_it _ h c3
        refine zk_iconst dX9_mayBeUnder_51 zki_0 ?_
        exact zk_zreturn dX9_mayBeUnder_52 rfl rfl (zk_rZ (Option.some.inj h))
      · have h := zk_if _ h c3
        refine zk_aload_n (i := 1) dX9_mayBeUnder_30 rfl rfl ?_
        refine zk_aload_n (i := 0) dX9_mayBeUnder_31 rfl rfl ?_
        refine zk_getR 1 9 6 dX9_mayBeUnder_32 zf_X9_34 (Nat.le_of_ble_eq_true rfl) rfl rfl ?_
        refine zk_iconst dX9_mayBeUnder_35 zki_0 ?_
        refine zk_iaload 3 5 dX9_mayBeUnder_36 (Nat.le_of_ble_eq_true rfl) rfl (zk_inb_in (by decide)) ?_
        refine zk_aload_n (i := 0) dX9_mayBeUnder_37 rfl rfl ?_
        refine zk_getI 1 9 5 dX9_mayBeUnder_38 zf_X9_28 (Nat.le_of_ble_eq_true rfl) rfl rfl ?_
        obtain ⟨q1, hq1, h⟩ := zk_ob h
        refine zk_callVi zY_X10_farApart 55 10 [_, _] dX9_mayBeUnder_41 zl_X10_farApart zc_X9_91 zk_ok10 (Nat.le_of_ble_eq_true rfl) rfl (fTree_farApart_ok (d := 0) (Nat.le_refl _) mem _ _ _ hq1) (Nat.lt_of_lt_of_le (by decide) hd) (Nat.le_of_ble_eq_true rfl) ?_
        refine zk_if_ne 51 dX9_mayBeUnder_44 rfl (fun c2 => ?_) (fun c2 => ?_)
        · have h := zk_if _ h c2
          refine zk_iconst dX9_mayBeUnder_51 zki_0 ?_
          exact zk_zreturn dX9_mayBeUnder_52 rfl rfl (zk_rZ (Option.some.inj h))
        · have h := zk_it _ h c2
          refine zk_iconst dX9_mayBeUnder_47 zki_1 ?_
          refine zk_goto 52 dX9_mayBeUnder_48 rfl ?_
          exact zk_zreturn dX9_mayBeUnder_52 rfl rfl (zk_rZ (Option.some.inj h))
  · have h := zk_if _ h c5
    refine zk_iconst dX9_mayBeUnder_11 zki_0 ?_
    exact zk_zreturn dX9_mayBeUnder_12 rfl rfl (zk_rZ (Option.some.inj h))
set_option maxRecDepth 100000 in
set_option maxHeartbeats 4000000 in
theorem fScript_mayStand_ok {d : Nat} (hd : 2 ≤ d) (mem : zkM) (a2 : Int32) (a3 : Int32) (z : Bool) (h : fScript_mayStand mem a2 a3 = some z) : zk_X zSX d zY_X9_mayStand [.ref 1, .ref 55, .int a2, .int a3] mem (some (.int (zk_b z)), mem) := by
  unfold fScript_mayStand at h
  refine zk_meet (n := 0) (lv := [some (.ref 1), some (.ref 55), some (.int a2), some (.int a3)]) zpn_X9 rfl (Nat.le_of_ble_eq_true rfl) ?_
  refine zk_iload_n (i := 2) dX9_mayStand_0 rfl rfl ?_
  rcases Decidable.em (a2 = (98 : Int32)) with c1 | c1
  · have h := zk_it _ h c1
    refine zk_lsw (off := 35) 36 dX9_mayStand_1 (by decide) (by rw [c1]; decide) rfl ?_
    refine zk_aload_n (i := 0) dX9_mayStand_36 rfl rfl ?_
    refine zk_getI 1 9 5 dX9_mayStand_37 zf_X9_28 (Nat.le_of_ble_eq_true rfl) rfl rfl ?_
    refine zk_gets 0 dX9_mayStand_40 rfl zs_X9_65 ?_
    refine zk_iload_n (i := 3) dX9_mayStand_43 rfl rfl ?_
    obtain ⟨b2, h⟩ := zk_gd h
    refine zk_ialoadR 0 dX9_mayStand_44 rfl (zk_inb_in b2) ?_
    refine zk_gets 1 dX9_mayStand_45 rfl zs_X9_71 ?_
    refine zk_iload_n (i := 3) dX9_mayStand_48 rfl rfl ?_
    obtain ⟨b3, h⟩ := zk_gd h
    refine zk_ialoadR 1 dX9_mayStand_49 rfl (zk_inb_in b3) ?_
    refine zk_callNi zY_X11_within [_, _, _] dX9_mayStand_50 zl_X11_within zc_X9_74 (fTp_within_ok (d := 0) (Nat.le_refl _) mem _ _ _ _ rfl) (Nat.lt_of_lt_of_le (by decide) hd) (Nat.le_of_ble_eq_true rfl) ?_
    exact zk_zreturn dX9_mayStand_53 rfl (zk_nb _) (zk_rZ (Option.some.inj h))
  · have h := zk_if _ h c1
    rcases Decidable.em (a2 = (99 : Int32)) with c4 | c4
    · have h := zk_it _ h c4
      refine zk_lsw (off := 93) 94 dX9_mayStand_1 (by decide) (by rw [c4]; decide) rfl ?_
      refine zk_aload_n (i := 0) dX9_mayStand_94 rfl rfl ?_
      refine zk_getI 1 9 5 dX9_mayStand_95 zf_X9_28 (Nat.le_of_ble_eq_true rfl) rfl rfl ?_
      refine zk_gets 4 dX9_mayStand_98 rfl zs_X9_68 ?_
      refine zk_iload_n (i := 3) dX9_mayStand_101 rfl rfl ?_
      obtain ⟨b5, h⟩ := zk_gd h
      refine zk_ialoadR 4 dX9_mayStand_102 rfl (zk_inb_in b5) ?_
      refine zk_gets 5 dX9_mayStand_103 rfl zs_X9_85 ?_
      refine zk_iload_n (i := 3) dX9_mayStand_106 rfl rfl ?_
      obtain ⟨b6, h⟩ := zk_gd h
      refine zk_ialoadR 5 dX9_mayStand_107 rfl (zk_inb_in b6) ?_
      refine zk_callNi zY_X11_within [_, _, _] dX9_mayStand_108 zl_X11_within zc_X9_74 (fTp_within_ok (d := 0) (Nat.le_refl _) mem _ _ _ _ rfl) (Nat.lt_of_lt_of_le (by decide) hd) (Nat.le_of_ble_eq_true rfl) ?_
      exact zk_zreturn dX9_mayStand_111 rfl (zk_nb _) (zk_rZ (Option.some.inj h))
    · have h := zk_if _ h c4
      rcases Decidable.em (a2 = (112 : Int32)) with c7 | c7
      · have h := zk_it _ h c7
        refine zk_lsw (off := 53) 54 dX9_mayStand_1 (by decide) (by rw [c7]; decide) rfl ?_
        refine zk_aload_n (i := 0) dX9_mayStand_54 rfl rfl ?_
        refine zk_getI 1 9 5 dX9_mayStand_55 zf_X9_28 (Nat.le_of_ble_eq_true rfl) rfl rfl ?_
        refine zk_gets 2 dX9_mayStand_58 rfl zs_X9_31 ?_
        refine zk_iload_n (i := 3) dX9_mayStand_61 rfl rfl ?_
        obtain ⟨b8, h⟩ := zk_gd h
        refine zk_ialoadR 2 dX9_mayStand_62 rfl (zk_inb_in b8) ?_
        refine zk_gets 3 dX9_mayStand_63 rfl zs_X9_78 ?_
        refine zk_iload_n (i := 3) dX9_mayStand_66 rfl rfl ?_
        obtain ⟨b9, h⟩ := zk_gd h
        refine zk_ialoadR 3 dX9_mayStand_67 rfl (zk_inb_in b9) ?_
        refine zk_callNi zY_X11_within [_, _, _] dX9_mayStand_68 zl_X11_within zc_X9_74 (fTp_within_ok (d := 0) (Nat.le_refl _) mem _ _ _ _ rfl) (Nat.lt_of_lt_of_le (by decide) hd) (Nat.le_of_ble_eq_true rfl) ?_
        refine zk_if_eq 92 dX9_mayStand_71 rfl (fun c13 => ?_) (fun c13 => ?_)
        · have h := zk_it _ h c13
          refine zk_iconst dX9_mayStand_92 zki_0 ?_
          exact zk_zreturn dX9_mayStand_93 rfl rfl (zk_rZ (Option.some.inj h))
        · have h := zk_if _ h c13
          refine zk_iload_n (i := 3) dX9_mayStand_74 rfl rfl ?_
          refine zk_iconst dX9_mayStand_75 zki_1 ?_
          refine zk_icmp_gt 88 dX9_mayStand_76 rfl (fun c12 => ?_) (fun c12 => ?_)
          · have h := zk_it _ h c12
            refine zk_iconst dX9_mayStand_88 zki_1 ?_
            refine zk_goto 93 dX9_mayStand_89 rfl ?_
            exact zk_zreturn dX9_mayStand_93 rfl rfl (zk_rZ (Option.some.inj h))
          · have h := zk_if _ h c12
            refine zk_aload_n (i := 0) dX9_mayStand_79 rfl rfl ?_
            refine zk_aload_n (i := 1) dX9_mayStand_80 rfl rfl ?_
            refine zk_iload_n (i := 3) dX9_mayStand_81 rfl rfl ?_
            obtain ⟨q10, hq10, h⟩ := zk_ob h
            refine zk_callVi zY_X9_mayBeUnder 1 9 [_, _] dX9_mayStand_82 zl_X9_mayBeUnder zc_X9_81 zk_ok9 (Nat.le_of_ble_eq_true rfl) rfl (fScript_mayBeUnder_ok (d := 1) (Nat.le_refl _) mem _ _ hq10) (Nat.lt_of_lt_of_le (by decide) hd) (Nat.le_of_ble_eq_true rfl) ?_
            refine zk_if_eq 92 dX9_mayStand_85 rfl (fun c11 => ?_) (fun c11 => ?_)
            · have h := zk_it _ h c11
              refine zk_iconst dX9_mayStand_92 zki_0 ?_
              exact zk_zreturn dX9_mayStand_93 rfl rfl (zk_rZ (Option.some.inj h))
            · have h := zk_if _ h c11
              refine zk_iconst dX9_mayStand_88 zki_1 ?_
              refine zk_goto 93 dX9_mayStand_89 rfl ?_
              exact zk_zreturn dX9_mayStand_93 rfl rfl (zk_rZ (Option.some.inj h))
      · have h := zk_if _ h c7
        refine zk_lsw (off := 111) 112 dX9_mayStand_1 (by decide) ((lv_osw c1 (by decide)).trans ((lv_osw c4 (by decide)).trans ((lv_osw c7 (by decide)).trans rfl))) rfl ?_
        refine zk_iconst dX9_mayStand_112 zki_0 ?_
        exact zk_zreturn dX9_mayStand_113 rfl rfl (zk_rZ (Option.some.inj h))
set_option maxRecDepth 100000 in
set_option maxHeartbeats 4000000 in
theorem fTree_take_3_ok {d : Nat} (hd : 1 ≤ d) (mem : zkM) (a1 : Int32) (z : zkM) (h : fTree_take_3 mem a1 = some z) : zk_X zSX d zY_X10_take [.ref 55, .int a1, .ref 3] mem (none, z) := by
  unfold fTree_take_3 at h
  refine zk_meet (n := 0) (lv := [some (.ref 55), some (.int a1), some (.ref 3)]) zpn_X10 rfl (Nat.le_of_ble_eq_true rfl) ?_
  refine zk_aload_n (i := 0) dX10_take_0 rfl rfl ?_
  refine zk_iload_n (i := 1) dX10_take_1 rfl rfl ?_
  refine zk_callVi zY_X10_hasRoomFor 55 10 [_] dX10_take_2 zl_X10_hasRoomFor zc_X10_46 zk_ok10 (Nat.le_of_ble_eq_true rfl) rfl (fTree_hasRoomFor_ok (d := 0) (Nat.le_refl _) mem _ _ rfl) (Nat.lt_of_lt_of_le (by decide) hd) (Nat.le_of_ble_eq_true rfl) ?_
  refine zk_if_eq 14 dX10_take_5 rfl (fun c26 => ?_) (fun c26 => ?_)
  · have h := zk_it _ h c26
    exact zk_vreturn dX10_take_14 rfl (zk_rVw (Option.some.inj h))
  · have h := zk_if _ h c26
    refine zk_aload_n (i := 2) dX10_take_8 rfl rfl ?_
    refine zk_alen 3 5 dX10_take_9 (Nat.le_of_ble_eq_true rfl) rfl (v := 5) (by decide) ?_
    refine zk_iconst dX10_take_10 zki_5 ?_
    refine zk_icmp_ge 15 dX10_take_11 rfl (fun _ => ?_) (fun c => absurd c (by decide))
    refine zk_iload_n (i := 1) dX10_take_15 rfl rfl ?_
    refine zk_bipush dX10_take_16 zkb_98 ?_
    refine zk_icmp_ne 70 dX10_take_18 rfl (fun c25 => ?_) (fun c25 => ?_)
    · have h := zk_if _ h c25
      refine zk_iload_n (i := 1) dX10_take_70 rfl rfl ?_
      refine zk_bipush dX10_take_71 zkb_112 ?_
      refine zk_icmp_ne 161 dX10_take_73 rfl (fun c17 => ?_) (fun c17 => ?_)
      · have h := zk_if _ h c17
        refine zk_aload_n (i := 0) dX10_take_161 rfl rfl ?_
        refine zk_getR 55 10 9 dX10_take_162 zf_X10_40 (Nat.le_of_ble_eq_true rfl) rfl rfl ?_
        refine zk_aload_n (i := 0) dX10_take_165 rfl rfl ?_
        refine zk_getI 55 10 2 dX10_take_166 zf_X10_18 (Nat.le_of_ble_eq_true rfl) rfl rfl ?_
        refine zk_aload_n (i := 2) dX10_take_169 rfl rfl ?_
        refine zk_iconst dX10_take_170 zki_0 ?_
        refine zk_iaload 3 5 dX10_take_171 (Nat.le_of_ble_eq_true rfl) rfl (zk_inb_in (by decide)) ?_
        obtain ⟨b1, h⟩ := zk_gd h
        obtain ⟨m2, em2, h⟩ := zk_lt h
        refine zk_iastore' 62 5 dX10_take_172 (Nat.le_of_ble_eq_true rfl) rfl (zk_inb_in b1) em2 ?_
        refine zk_aload_n (i := 0) dX10_take_173 rfl rfl ?_
        refine zk_getR 55 10 10 dX10_take_174 zf_X10_43 (Nat.le_of_ble_eq_true rfl) rfl rfl ?_
        refine zk_aload_n (i := 0) dX10_take_177 rfl rfl ?_
        refine zk_getI 55 10 2 dX10_take_178 zf_X10_18 (Nat.le_of_ble_eq_true rfl) rfl rfl ?_
        refine zk_aload_n (i := 2) dX10_take_181 rfl rfl ?_
        refine zk_iconst dX10_take_182 zki_1 ?_
        refine zk_iaload 3 5 dX10_take_183 (Nat.le_of_ble_eq_true rfl) rfl (zk_inb_in (by decide)) ?_
        obtain ⟨b3, h⟩ := zk_gd h
        obtain ⟨m4, em4, h⟩ := zk_lt h
        refine zk_iastore' 63 5 dX10_take_184 (Nat.le_of_ble_eq_true rfl) rfl (zk_inb_in b3) em4 ?_
        refine zk_aload_n (i := 0) dX10_take_185 rfl rfl ?_
        refine zk_dup dX10_take_186 rfl ?_
        refine zk_getI 55 10 2 dX10_take_187 zf_X10_18 (Nat.le_of_ble_eq_true rfl) rfl rfl ?_
        refine zk_iconst dX10_take_190 zki_1 ?_
        refine zk_iadd dX10_take_191 ?_
        obtain ⟨m5, em5, h⟩ := zk_lt h
        refine zk_putI' 55 10 2 dX10_take_192 zp_X10_18 (Nat.le_of_ble_eq_true rfl) rfl rfl em5 ?_
        exact zk_vreturn dX10_take_195 rfl (zk_rVw (Option.some.inj h))
      · have h := zk_it _ h c17
        refine zk_aload_n (i := 0) dX10_take_76 rfl rfl ?_
        refine zk_getR 55 10 7 dX10_take_77 zf_X10_34 (Nat.le_of_ble_eq_true rfl) rfl rfl ?_
        refine zk_iconst dX10_take_80 zki_2 ?_
        refine zk_aload_n (i := 0) dX10_take_81 rfl rfl ?_
        refine zk_getI 55 10 1 dX10_take_82 zf_X10_15 (Nat.le_of_ble_eq_true rfl) rfl rfl ?_
        refine zk_imul dX10_take_85 ?_
        refine zk_aload_n (i := 2) dX10_take_86 rfl rfl ?_
        refine zk_iconst dX10_take_87 zki_0 ?_
        refine zk_iaload 3 5 dX10_take_88 (Nat.le_of_ble_eq_true rfl) rfl (zk_inb_in (by decide)) ?_
        obtain ⟨b6, h⟩ := zk_gd h
        obtain ⟨m7, em7, h⟩ := zk_lt h
        refine zk_iastore' 60 12 dX10_take_89 (Nat.le_of_ble_eq_true rfl) rfl (zk_inb_in b6) em7 ?_
        refine zk_aload_n (i := 0) dX10_take_90 rfl rfl ?_
        refine zk_getR 55 10 7 dX10_take_91 zf_X10_34 (Nat.le_of_ble_eq_true rfl) rfl rfl ?_
        refine zk_iconst dX10_take_94 zki_2 ?_
        refine zk_aload_n (i := 0) dX10_take_95 rfl rfl ?_
        refine zk_getI 55 10 1 dX10_take_96 zf_X10_15 (Nat.le_of_ble_eq_true rfl) rfl rfl ?_
        refine zk_imul dX10_take_99 ?_
        refine zk_iconst dX10_take_100 zki_1 ?_
        refine zk_iadd dX10_take_101 ?_
        refine zk_aload_n (i := 2) dX10_take_102 rfl rfl ?_
        refine zk_iconst dX10_take_103 zki_1 ?_
        refine zk_iaload 3 5 dX10_take_104 (Nat.le_of_ble_eq_true rfl) rfl (zk_inb_in (by decide)) ?_
        obtain ⟨b8, h⟩ := zk_gd h
        obtain ⟨m9, em9, h⟩ := zk_lt h
        refine zk_iastore' 60 12 dX10_take_105 (Nat.le_of_ble_eq_true rfl) rfl (zk_inb_in b8) em9 ?_
        refine zk_aload_n (i := 0) dX10_take_106 rfl rfl ?_
        refine zk_getR 55 10 6 dX10_take_107 zf_X10_31 (Nat.le_of_ble_eq_true rfl) rfl rfl ?_
        refine zk_aload_n (i := 0) dX10_take_110 rfl rfl ?_
        refine zk_getI 55 10 1 dX10_take_111 zf_X10_15 (Nat.le_of_ble_eq_true rfl) rfl rfl ?_
        refine zk_aload_n (i := 2) dX10_take_114 rfl rfl ?_
        refine zk_iconst dX10_take_115 zki_2 ?_
        refine zk_iaload 3 5 dX10_take_116 (Nat.le_of_ble_eq_true rfl) rfl (zk_inb_in (by decide)) ?_
        obtain ⟨b10, h⟩ := zk_gd h
        obtain ⟨m11, em11, h⟩ := zk_lt h
        refine zk_iastore' 59 6 dX10_take_117 (Nat.le_of_ble_eq_true rfl) rfl (zk_inb_in b10) em11 ?_
        refine zk_aload_n (i := 0) dX10_take_118 rfl rfl ?_
        refine zk_getR 55 10 8 dX10_take_119 zf_X10_37 (Nat.le_of_ble_eq_true rfl) rfl rfl ?_
        refine zk_iconst dX10_take_122 zki_2 ?_
        refine zk_aload_n (i := 0) dX10_take_123 rfl rfl ?_
        refine zk_getI 55 10 1 dX10_take_124 zf_X10_15 (Nat.le_of_ble_eq_true rfl) rfl rfl ?_
        refine zk_imul dX10_take_127 ?_
        refine zk_aload_n (i := 2) dX10_take_128 rfl rfl ?_
        refine zk_iconst dX10_take_129 zki_3 ?_
        refine zk_iaload 3 5 dX10_take_130 (Nat.le_of_ble_eq_true rfl) rfl (zk_inb_in (by decide)) ?_
        obtain ⟨b12, h⟩ := zk_gd h
        obtain ⟨m13, em13, h⟩ := zk_lt h
        refine zk_iastore' 61 12 dX10_take_131 (Nat.le_of_ble_eq_true rfl) rfl (zk_inb_in b12) em13 ?_
        refine zk_aload_n (i := 0) dX10_take_132 rfl rfl ?_
        refine zk_getR 55 10 8 dX10_take_133 zf_X10_37 (Nat.le_of_ble_eq_true rfl) rfl rfl ?_
        refine zk_iconst dX10_take_136 zki_2 ?_
        refine zk_aload_n (i := 0) dX10_take_137 rfl rfl ?_
        refine zk_getI 55 10 1 dX10_take_138 zf_X10_15 (Nat.le_of_ble_eq_true rfl) rfl rfl ?_
        refine zk_imul dX10_take_141 ?_
        refine zk_iconst dX10_take_142 zki_1 ?_
        refine zk_iadd dX10_take_143 ?_
        refine zk_aload_n (i := 2) dX10_take_144 rfl rfl ?_
        refine zk_iconst dX10_take_145 zki_4 ?_
        refine zk_iaload 3 5 dX10_take_146 (Nat.le_of_ble_eq_true rfl) rfl (zk_inb_in (by decide)) ?_
        obtain ⟨b14, h⟩ := zk_gd h
        obtain ⟨m15, em15, h⟩ := zk_lt h
        refine zk_iastore' 61 12 dX10_take_147 (Nat.le_of_ble_eq_true rfl) rfl (zk_inb_in b14) em15 ?_
        refine zk_aload_n (i := 0) dX10_take_148 rfl rfl ?_
        refine zk_dup dX10_take_149 rfl ?_
        refine zk_getI 55 10 1 dX10_take_150 zf_X10_15 (Nat.le_of_ble_eq_true rfl) rfl rfl ?_
        refine zk_iconst dX10_take_153 zki_1 ?_
        refine zk_iadd dX10_take_154 ?_
        obtain ⟨m16, em16, h⟩ := zk_lt h
        refine zk_putI' 55 10 1 dX10_take_155 zp_X10_15 (Nat.le_of_ble_eq_true rfl) rfl rfl em16 ?_
        refine zk_goto 195 dX10_take_158 rfl ?_
        exact zk_vreturn dX10_take_195 rfl (zk_rVw (Option.some.inj h))
    · have h := zk_it _ h c25
      refine zk_aload_n (i := 0) dX10_take_21 rfl rfl ?_
      refine zk_getR 55 10 3 dX10_take_22 zf_X10_21 (Nat.le_of_ble_eq_true rfl) rfl rfl ?_
      refine zk_aload_n (i := 0) dX10_take_25 rfl rfl ?_
      refine zk_getI 55 10 0 dX10_take_26 zf_X10_9 (Nat.le_of_ble_eq_true rfl) rfl rfl ?_
      refine zk_aload_n (i := 2) dX10_take_29 rfl rfl ?_
      refine zk_iconst dX10_take_30 zki_0 ?_
      refine zk_iaload 3 5 dX10_take_31 (Nat.le_of_ble_eq_true rfl) rfl (zk_inb_in (by decide)) ?_
      obtain ⟨b18, h⟩ := zk_gd h
      obtain ⟨m19, em19, h⟩ := zk_lt h
      refine zk_iastore' 56 8 dX10_take_32 (Nat.le_of_ble_eq_true rfl) rfl (zk_inb_in b18) em19 ?_
      refine zk_aload_n (i := 0) dX10_take_33 rfl rfl ?_
      refine zk_getR 55 10 4 dX10_take_34 zf_X10_25 (Nat.le_of_ble_eq_true rfl) rfl rfl ?_
      refine zk_aload_n (i := 0) dX10_take_37 rfl rfl ?_
      refine zk_getI 55 10 0 dX10_take_38 zf_X10_9 (Nat.le_of_ble_eq_true rfl) rfl rfl ?_
      refine zk_aload_n (i := 2) dX10_take_41 rfl rfl ?_
      refine zk_iconst dX10_take_42 zki_1 ?_
      refine zk_iaload 3 5 dX10_take_43 (Nat.le_of_ble_eq_true rfl) rfl (zk_inb_in (by decide)) ?_
      obtain ⟨b20, h⟩ := zk_gd h
      obtain ⟨m21, em21, h⟩ := zk_lt h
      refine zk_iastore' 57 8 dX10_take_44 (Nat.le_of_ble_eq_true rfl) rfl (zk_inb_in b20) em21 ?_
      refine zk_aload_n (i := 0) dX10_take_45 rfl rfl ?_
      refine zk_getR 55 10 5 dX10_take_46 zf_X10_28 (Nat.le_of_ble_eq_true rfl) rfl rfl ?_
      refine zk_aload_n (i := 0) dX10_take_49 rfl rfl ?_
      refine zk_getI 55 10 0 dX10_take_50 zf_X10_9 (Nat.le_of_ble_eq_true rfl) rfl rfl ?_
      refine zk_aload_n (i := 2) dX10_take_53 rfl rfl ?_
      refine zk_iconst dX10_take_54 zki_2 ?_
      refine zk_iaload 3 5 dX10_take_55 (Nat.le_of_ble_eq_true rfl) rfl (zk_inb_in (by decide)) ?_
      obtain ⟨b22, h⟩ := zk_gd h
      obtain ⟨m23, em23, h⟩ := zk_lt h
      refine zk_iastore' 58 8 dX10_take_56 (Nat.le_of_ble_eq_true rfl) rfl (zk_inb_in b22) em23 ?_
      refine zk_aload_n (i := 0) dX10_take_57 rfl rfl ?_
      refine zk_dup dX10_take_58 rfl ?_
      refine zk_getI 55 10 0 dX10_take_59 zf_X10_9 (Nat.le_of_ble_eq_true rfl) rfl rfl ?_
      refine zk_iconst dX10_take_62 zki_1 ?_
      refine zk_iadd dX10_take_63 ?_
      obtain ⟨m24, em24, h⟩ := zk_lt h
      refine zk_putI' 55 10 0 dX10_take_64 zp_X10_9 (Nat.le_of_ble_eq_true rfl) rfl rfl em24 ?_
      refine zk_goto 195 dX10_take_67 rfl ?_
      exact zk_vreturn dX10_take_195 rfl (zk_rVw (Option.some.inj h))
set_option maxRecDepth 100000 in
set_option maxHeartbeats 4000000 in
theorem fScript_readItem_L17_ok {d : Nat} {r : Option Value × zkM} (hd : 4 ≤ d)  : ∀ (n : Nat) (mem : zkM) (x2 : Int32) (x3 : Int32) (z : (Bool × zkM) ⊕ (zkM)), fScript_readItem_L17 n mem x2 x3 = some z → (∀ y, z = .inl y → (some (.int (zk_b y.1)), y.2) = r) → (∀ z', z = .inr z' → zk_J zSX d zY_X9_readItem (zk_R zSX r) 65 [some (.ref 1), some (.ref 55), some (.int x2), none] [] z') → zk_J zSX d zY_X9_readItem (zk_R zSX r) 17 [some (.ref 1), some (.ref 55), some (.int x2), some (.int x3)] [] mem := by
  intro n
  induction n with
  | zero => intro mem x2 x3 z h; cases h
  | succ n ih =>
    intro mem x2 x3 z h hr he
    rw [fScript_readItem_L17] at h
    refine zk_iload_n (i := 3) dX9_readItem_17 rfl rfl ?_
    refine zk_iload_n (i := 2) dX9_readItem_18 rfl rfl ?_
    refine zk_callSi zY_X9_numbersOf [_] dX9_readItem_19 zl_X9_numbersOf zc_X9_53 (fScript_numbersOf_ok (d := 0) (Nat.le_refl _) mem _ _ rfl) (Nat.lt_of_lt_of_le (by decide) hd) (Nat.le_of_ble_eq_true rfl) ?_
    refine zk_icmp_ge 65 dX9_readItem_22 rfl (fun c7 => ?_) (fun c7 => ?_)
    · have h := zk_it _ h c7
      exact zk_weak (zk_leS (zk_leS (zk_leS (zk_leN zk_leE)))) (he _ (Option.some.inj h).symm)
    · have h := zk_if _ h c7
      refine zk_aload_n (i := 0) dX9_readItem_25 rfl rfl ?_
      obtain ⟨q1, hq1, h⟩ := zk_ob h
      refine zk_callVv zY_X9_step 1 9 [] dX9_readItem_26 zl_X9_step zc_X9_42 zk_ok9 (Nat.le_of_ble_eq_true rfl) rfl (fScript_step_ok (d := 3) (Nat.le_refl _) mem  _ hq1) (Nat.lt_of_lt_of_le (by decide) hd) (Nat.le_of_ble_eq_true rfl) ?_
      refine zk_aload_n (i := 0) dX9_readItem_29 rfl rfl ?_
      refine zk_getI 1 9 4 dX9_readItem_30 zf_X9_25 (Nat.le_of_ble_eq_true rfl) rfl rfl ?_
      refine zk_iconst dX9_readItem_33 zki_1 ?_
      refine zk_icmp_ne 47 dX9_readItem_34 rfl (fun c6 => ?_) (fun c6 => ?_)
      · have h := zk_if _ h c6
        refine zk_iconst dX9_readItem_47 zki_0 ?_
        exact zk_zreturn dX9_readItem_48 rfl rfl ((zk_rZw rfl).trans (hr _ (Option.some.inj h).symm))
      · have h := zk_it _ h c6
        refine zk_aload_n (i := 0) dX9_readItem_37 rfl rfl ?_
        refine zk_aload_n (i := 1) dX9_readItem_38 rfl rfl ?_
        refine zk_iload_n (i := 2) dX9_readItem_39 rfl rfl ?_
        refine zk_iload_n (i := 3) dX9_readItem_40 rfl rfl ?_
        obtain ⟨q2, hq2, h⟩ := zk_ob h
        refine zk_callVi zY_X9_mayStand 1 9 [_, _, _] dX9_readItem_41 zl_X9_mayStand zc_X9_57 zk_ok9 (Nat.le_of_ble_eq_true rfl) rfl (fScript_mayStand_ok (d := 2) (Nat.le_refl _) q1 _ _ _ hq2) (Nat.lt_of_lt_of_le (by decide) hd) (Nat.le_of_ble_eq_true rfl) ?_
        refine zk_if_ne 49 dX9_readItem_44 rfl (fun c5 => ?_) (fun c5 => ?_)
        · have h := zk_if _ h c5
          refine zk_aload_n (i := 0) dX9_readItem_49 rfl rfl ?_
          refine zk_getR 1 9 6 dX9_readItem_50 zf_X9_34 (Nat.le_of_ble_eq_true rfl) rfl rfl ?_
          refine zk_iload_n (i := 3) dX9_readItem_53 rfl rfl ?_
          refine zk_aload_n (i := 0) dX9_readItem_54 rfl rfl ?_
          refine zk_getI 1 9 5 dX9_readItem_55 zf_X9_28 (Nat.le_of_ble_eq_true rfl) rfl rfl ?_
          obtain ⟨b3, h⟩ := zk_gd h
          obtain ⟨m4, em4, h⟩ := zk_lt h
          refine zk_iastore' 3 5 dX9_readItem_58 (Nat.le_of_ble_eq_true rfl) rfl (zk_inb_in b3) em4 ?_
          refine zk_iinc2 dX9_readItem_59 rfl zki_1 (Nat.le_of_ble_eq_true rfl) rfl ?_
          refine zk_goto 17 dX9_readItem_62 rfl ?_
          exact zk_weak (zk_leS (zk_leS (zk_leS (zk_leS zk_leE)))) (ih m4 x2 (x3 + (1 : Int32)) _ h hr he)
        · have h := zk_it _ h c5
          refine zk_iconst dX9_readItem_47 zki_0 ?_
          exact zk_zreturn dX9_readItem_48 rfl rfl ((zk_rZw rfl).trans (hr _ (Option.some.inj h).symm))
set_option maxRecDepth 100000 in
set_option maxHeartbeats 4000000 in
theorem fScript_readItem_ok {d : Nat} (hd : 4 ≤ d) (mem : zkM) (z : Bool × zkM) (h : fScript_readItem mem = some z) : zk_X zSX d zY_X9_readItem [.ref 1, .ref 55] mem (some (.int (zk_b z.1)), z.2) := by
  unfold fScript_readItem at h
  refine zk_meet (n := 2) (lv := [some (.ref 1), some (.ref 55), none, none]) zpn_X9 rfl (Nat.le_of_ble_eq_true rfl) ?_
  refine zk_aload_n (i := 0) dX9_readItem_0 rfl rfl ?_
  refine zk_getI 1 9 4 dX9_readItem_1 zf_X9_25 (Nat.le_of_ble_eq_true rfl) rfl rfl ?_
  obtain ⟨v1, ev1, h⟩ := zk_lt h
  refine zk_istore_n' (i := 2) dX9_readItem_4 rfl ev1 (Nat.le_of_ble_eq_true rfl) rfl ?_
  refine zk_aload_n (i := 1) dX9_readItem_5 rfl rfl ?_
  refine zk_iload_n (i := 2) dX9_readItem_6 rfl rfl ?_
  refine zk_callVi zY_X10_hasRoomFor 55 10 [_] dX9_readItem_7 zl_X10_hasRoomFor zc_X9_49 zk_ok10 (Nat.le_of_ble_eq_true rfl) rfl (fTree_hasRoomFor_ok (d := 0) (Nat.le_refl _) mem _ _ rfl) (Nat.lt_of_lt_of_le (by decide) hd) (Nat.le_of_ble_eq_true rfl) ?_
  refine zk_if_ne 15 dX9_readItem_10 rfl (fun c7 => ?_) (fun c7 => ?_)
  · have h := zk_if _ h c7
    refine zk_iconst dX9_readItem_15 zki_0 ?_
    refine zk_istore_n (i := 3) dX9_readItem_16 rfl (Nat.le_of_ble_eq_true rfl) rfl ?_
    obtain ⟨q2, hq2, h⟩ := zk_ob h
    refine zk_weak (zk_leS (zk_leS (zk_leS (zk_leS zk_leE)))) (fScript_readItem_L17_ok hd 500 mem v1 (0 : Int32) _ hq2 (fun y hy => ?_) (fun q3 hy => ?_))
    · subst hy; have h := zk_el h; cases h; rfl
    subst hy
    have h := zk_er h
    refine zk_aload_n (i := 0) dX9_readItem_65 rfl rfl ?_
    obtain ⟨q4, hq4, h⟩ := zk_ob h
    refine zk_callVv zY_X9_step 1 9 [] dX9_readItem_66 zl_X9_step zc_X9_42 zk_ok9 (Nat.le_of_ble_eq_true rfl) rfl (fScript_step_ok (d := 3) (Nat.le_refl _) q3  _ hq4) (Nat.lt_of_lt_of_le (by decide) hd) (Nat.le_of_ble_eq_true rfl) ?_
    refine zk_aload_n (i := 0) dX9_readItem_69 rfl rfl ?_
    refine zk_getI 1 9 4 dX9_readItem_70 zf_X9_25 (Nat.le_of_ble_eq_true rfl) rfl rfl ?_
    refine zk_bipush dX9_readItem_73 zkb_59 ?_
    refine zk_icmp_eq 80 dX9_readItem_75 rfl (fun c6 => ?_) (fun c6 => ?_)
    · have h := zk_it _ h c6
      refine zk_aload_n (i := 1) dX9_readItem_80 rfl rfl ?_
      refine zk_iload_n (i := 2) dX9_readItem_81 rfl rfl ?_
      refine zk_aload_n (i := 0) dX9_readItem_82 rfl rfl ?_
      refine zk_getR 1 9 6 dX9_readItem_83 zf_X9_34 (Nat.le_of_ble_eq_true rfl) rfl rfl ?_
      obtain ⟨q5, hq5, h⟩ := zk_ob h
      refine zk_callVv zY_X10_take 55 10 [_, _] dX9_readItem_86 zl_X10_take zc_X9_61 zk_ok10 (Nat.le_of_ble_eq_true rfl) rfl (fTree_take_3_ok (d := 1) (Nat.le_refl _) q4 _ _ hq5) (Nat.lt_of_lt_of_le (by decide) hd) (Nat.le_of_ble_eq_true rfl) ?_
      refine zk_iconst dX9_readItem_89 zki_1 ?_
      exact zk_zreturn dX9_readItem_90 rfl rfl (zk_rZw (Option.some.inj h))
    · have h := zk_if _ h c6
      refine zk_iconst dX9_readItem_78 zki_0 ?_
      exact zk_zreturn dX9_readItem_79 rfl rfl (zk_rZw (Option.some.inj h))
  · have h := zk_it _ h c7
    refine zk_iconst dX9_readItem_13 zki_0 ?_
    exact zk_zreturn dX9_readItem_14 rfl rfl (zk_rZw (Option.some.inj h))
set_option maxRecDepth 100000 in
set_option maxHeartbeats 4000000 in
theorem fScript_readInto_L15_ok {d : Nat} {r : Option Value × zkM} (hd : 5 ≤ d)  : ∀ (n : Nat) (mem : zkM) (x2 : Int32) (z : (Int32 × zkM) ⊕ (Int32 × zkM)), fScript_readInto_L15 n mem x2 = some z → (∀ y, z = .inl y → (some (.int y.1), y.2) = r) → (∀ z', z = .inr z' → zk_J zSX d zY_X9_readInto (zk_R zSX r) 55 [none, none, some (.int z'.1)] [] z'.2) → zk_J zSX d zY_X9_readInto (zk_R zSX r) 15 [some (.ref 1), some (.ref 55), some (.int x2)] [] mem := by
  intro n
  induction n with
  | zero => intro mem x2 z h; cases h
  | succ n ih =>
    intro mem x2 z h hr he
    rw [fScript_readInto_L15] at h
    refine zk_aload_n (i := 0) dX9_readInto_15 rfl rfl ?_
    refine zk_getI 1 9 4 dX9_readInto_16 zf_X9_25 (Nat.le_of_ble_eq_true rfl) rfl rfl ?_
    refine zk_if_eq 55 dX9_readInto_19 rfl (fun c5 => ?_) (fun c5 => ?_)
    · have h := zk_it _ h c5
      exact zk_weak (zk_leN (zk_leN (zk_leS zk_leE))) (he _ (Option.some.inj h).symm)
    · have h := zk_if _ h c5
      refine zk_iload_n (i := 2) dX9_readInto_22 rfl rfl ?_
      refine zk_sipush dX9_readInto_23 zks_200 ?_
      refine zk_icmp_ge 55 dX9_readInto_26 rfl (fun c4 => ?_) (fun c4 => ?_)
      · have h := zk_it _ h c4
        exact zk_weak (zk_leN (zk_leN (zk_leS zk_leE))) (he _ (Option.some.inj h).symm)
      · have h := zk_if _ h c4
        refine zk_aload_n (i := 0) dX9_readInto_29 rfl rfl ?_
        refine zk_aload_n (i := 1) dX9_readInto_30 rfl rfl ?_
        obtain ⟨q1, hq1, h⟩ := zk_ob h
        refine zk_callVi zY_X9_readItem 1 9 [_] dX9_readInto_31 zl_X9_readItem zc_X9_45 zk_ok9 (Nat.le_of_ble_eq_true rfl) rfl (fScript_readItem_ok (d := 4) (Nat.le_refl _) mem  _ hq1) (Nat.lt_of_lt_of_le (by decide) hd) (Nat.le_of_ble_eq_true rfl) ?_
        refine zk_if_ne 45 dX9_readInto_34 rfl (fun c3 => ?_) (fun c3 => ?_)
        · have h := zk_if _ h c3
          refine zk_iinc2 dX9_readInto_45 rfl zki_1 (Nat.le_of_ble_eq_true rfl) rfl ?_
          refine zk_aload_n (i := 0) dX9_readInto_48 rfl rfl ?_
          obtain ⟨q2, hq2, h⟩ := zk_ob h
          refine zk_callVv zY_X9_step 1 9 [] dX9_readInto_49 zl_X9_step zc_X9_42 zk_ok9 (Nat.le_of_ble_eq_true rfl) rfl (fScript_step_ok (d := 3) (Nat.le_refl _) q1.2  _ hq2) (Nat.lt_of_lt_of_le (by decide) hd) (Nat.le_of_ble_eq_true rfl) ?_
          refine zk_goto 15 dX9_readInto_52 rfl ?_
          exact zk_weak (zk_leS (zk_leS (zk_leS zk_leE))) (ih q2 (x2 + (1 : Int32)) _ h hr he)
        · have h := zk_it _ h c3
          refine zk_bipush dX9_readInto_37 zkb_m10 ?_
          refine zk_aload_n (i := 0) dX9_readInto_39 rfl rfl ?_
          refine zk_getI 1 9 3 dX9_readInto_40 zf_X9_22 (Nat.le_of_ble_eq_true rfl) rfl rfl ?_
          refine zk_isub dX9_readInto_43 ?_
          exact zk_ireturn dX9_readInto_44 rfl ((zk_rIw rfl).trans (hr _ (Option.some.inj h).symm))
set_option maxRecDepth 100000 in
set_option maxHeartbeats 4000000 in
theorem fScript_readInto_ok {d : Nat} (hd : 5 ≤ d) (mem : zkM) (z : Int32 × zkM) (h : fScript_readInto mem = some z) : zk_X zSX d zY_X9_readInto [.ref 1, .ref 55] mem (some (.int z.1), z.2) := by
  unfold fScript_readInto at h
  refine zk_meet (n := 1) (lv := [some (.ref 1), some (.ref 55), none]) zpn_X9 rfl (Nat.le_of_ble_eq_true rfl) ?_
  refine zk_aload_n (i := 1) dX9_readInto_0 rfl rfl ?_
  obtain ⟨q1, hq1, h⟩ := zk_lt h
  refine zk_callVv zY_X10_strip 55 10 [] dX9_readInto_1 zl_X10_strip zc_X9_37 zk_ok10 (Nat.le_of_ble_eq_true rfl) rfl (fTree_strip_ok (d := 0) (Nat.le_refl _) mem  _ hq1) (Nat.lt_of_lt_of_le (by decide) hd) (Nat.le_of_ble_eq_true rfl) ?_
  refine zk_aload_n (i := 0) dX9_readInto_4 rfl rfl ?_
  refine zk_iconst dX9_readInto_5 zki_0 ?_
  obtain ⟨m2, em2, h⟩ := zk_lt h
  refine zk_putI' 1 9 2 dX9_readInto_6 zp_X9_19 (Nat.le_of_ble_eq_true rfl) rfl rfl em2 ?_
  refine zk_aload_n (i := 0) dX9_readInto_9 rfl rfl ?_
  obtain ⟨q3, hq3, h⟩ := zk_ob h
  refine zk_callVv zY_X9_step 1 9 [] dX9_readInto_10 zl_X9_step zc_X9_42 zk_ok9 (Nat.le_of_ble_eq_true rfl) rfl (fScript_step_ok (d := 3) (Nat.le_refl _) m2  _ hq3) (Nat.lt_of_lt_of_le (by decide) hd) (Nat.le_of_ble_eq_true rfl) ?_
  refine zk_iconst dX9_readInto_13 zki_0 ?_
  refine zk_istore_n (i := 2) dX9_readInto_14 rfl (Nat.le_of_ble_eq_true rfl) rfl ?_
  obtain ⟨q4, hq4, h⟩ := zk_ob h
  refine zk_weak (zk_leS (zk_leS (zk_leS zk_leE))) (fScript_readInto_L15_ok hd 500 q3 (0 : Int32) _ hq4 (fun y hy => ?_) (fun q5 hy => ?_))
  · subst hy; have h := zk_el h; cases h; rfl
  subst hy
  have h := zk_er h
  refine zk_iload_n (i := 2) dX9_readInto_55 rfl rfl ?_
  exact zk_ireturn dX9_readInto_56 rfl (zk_rIw (Option.some.inj h))
set_option maxRecDepth 100000 in
set_option maxHeartbeats 4000000 in
theorem fScene_begin_L2_ok {d : Nat} {Z : zkZ} (hd : 1 ≤ d)  : ∀ (n : Nat) (mem : zkM) (x2 : Int32) (z : zkM), fScene_begin_L2 n mem x2 = some z → zk_J zSX d zY_X8_begin Z 21 [some (.ref 4), some (.ref 46), none] [] z → zk_J zSX d zY_X8_begin Z 2 [some (.ref 4), some (.ref 46), some (.int x2)] [] mem := by
  intro n
  induction n with
  | zero => intro mem x2 z h; cases h
  | succ n ih =>
    intro mem x2 z h he
    rw [fScene_begin_L2] at h
    refine zk_iload_n (i := 2) dX8_begin_2 rfl rfl ?_
    refine zk_iconst dX8_begin_3 zki_5 ?_
    refine zk_icmp_ge 21 dX8_begin_4 rfl (fun c3 => ?_) (fun c3 => ?_)
    · have h := zk_it _ h c3
      cases h
      exact zk_weak (zk_leS (zk_leS (zk_leN zk_leE))) he
    · have h := zk_if _ h c3
      refine zk_aload_n (i := 0) dX8_begin_7 rfl rfl ?_
      refine zk_getR 4 8 0 dX8_begin_8 zf_X8_11 (Nat.le_of_ble_eq_true rfl) rfl rfl ?_
      refine zk_iload_n (i := 2) dX8_begin_11 rfl rfl ?_
      refine zk_bipush dX8_begin_12 zkb_m9 ?_
      obtain ⟨b1, h⟩ := zk_gd h
      obtain ⟨m2, em2, h⟩ := zk_lt h
      refine zk_iastore' 5 42 dX8_begin_14 (Nat.le_of_ble_eq_true rfl) rfl (zk_inb_in b1) em2 ?_
      refine zk_iinc2 dX8_begin_15 rfl zki_1 (Nat.le_of_ble_eq_true rfl) rfl ?_
      refine zk_goto 2 dX8_begin_18 rfl ?_
      exact zk_weak (zk_leS (zk_leS (zk_leS zk_leE))) (ih m2 (x2 + (1 : Int32)) _ h he)
set_option maxRecDepth 100000 in
set_option maxHeartbeats 4000000 in
theorem fScene_begin_L23_ok {d : Nat} {Z : zkZ} (hd : 1 ≤ d)  : ∀ (n : Nat) (mem : zkM) (x2 : Int32) (z : zkM), fScene_begin_L23 n mem x2 = some z → zk_J zSX d zY_X8_begin Z 46 [some (.ref 4), none, none] [] z → zk_J zSX d zY_X8_begin Z 23 [some (.ref 4), some (.ref 46), some (.int x2)] [] mem := by
  intro n
  induction n with
  | zero => intro mem x2 z h; cases h
  | succ n ih =>
    intro mem x2 z h he
    rw [fScene_begin_L23] at h
    refine zk_iload_n (i := 2) dX8_begin_23 rfl rfl ?_
    refine zk_bipush dX8_begin_24 zkb_12 ?_
    refine zk_icmp_ge 46 dX8_begin_26 rfl (fun c3 => ?_) (fun c3 => ?_)
    · have h := zk_it _ h c3
      cases h
      exact zk_weak (zk_leS (zk_leN (zk_leN zk_leE))) he
    · have h := zk_if _ h c3
      refine zk_aload_n (i := 0) dX8_begin_29 rfl rfl ?_
      refine zk_iload_n (i := 2) dX8_begin_30 rfl rfl ?_
      refine zk_aload_n (i := 1) dX8_begin_31 rfl rfl ?_
      refine zk_getR 46 10 8 dX8_begin_32 zf_X8_15 (Nat.le_of_ble_eq_true rfl) rfl rfl ?_
      refine zk_iload_n (i := 2) dX8_begin_35 rfl rfl ?_
      obtain ⟨b1, h⟩ := zk_gd h
      refine zk_iaload 52 12 dX8_begin_36 (Nat.le_of_ble_eq_true rfl) rfl (zk_inb_in b1) ?_
      obtain ⟨q2, hq2, h⟩ := zk_ob h
      refine zk_callVv zY_X8_doAnew 4 8 [_, _] dX8_begin_37 zl_X8_doAnew zc_X8_20 zk_ok8 (Nat.le_of_ble_eq_true rfl) rfl (fScene_doAnew_ok (d := 0) (Nat.le_refl _) mem _ _ _ hq2) (Nat.lt_of_lt_of_le (by decide) hd) (Nat.le_of_ble_eq_true rfl) ?_
      refine zk_iinc2 dX8_begin_40 rfl zki_1 (Nat.le_of_ble_eq_true rfl) rfl ?_
      refine zk_goto 23 dX8_begin_43 rfl ?_
      exact zk_weak (zk_leS (zk_leS (zk_leS zk_leE))) (ih q2 (x2 + (1 : Int32)) _ h he)
set_option maxRecDepth 100000 in
set_option maxHeartbeats 4000000 in
theorem fScene_begin_ok {d : Nat} (hd : 1 ≤ d) (mem : zkM) (z : zkM) (h : fScene_begin mem = some z) : zk_X zSX d zY_X8_begin [.ref 4, .ref 46] mem (none, z) := by
  unfold fScene_begin at h
  refine zk_meet (n := 1) (lv := [some (.ref 4), some (.ref 46), none]) zpn_X8 rfl (Nat.le_of_ble_eq_true rfl) ?_
  refine zk_iconst dX8_begin_0 zki_0 ?_
  refine zk_istore_n (i := 2) dX8_begin_1 rfl (Nat.le_of_ble_eq_true rfl) rfl ?_
  obtain ⟨q1, hq1, h⟩ := zk_ob h
  refine zk_weak (zk_leS (zk_leS (zk_leS zk_leE))) (fScene_begin_L2_ok hd 500 mem (0 : Int32) _ hq1 ?_)
  refine zk_iconst dX8_begin_21 zki_0 ?_
  refine zk_istore_n (i := 2) dX8_begin_22 rfl (Nat.le_of_ble_eq_true rfl) rfl ?_
  obtain ⟨q2, hq2, h⟩ := zk_ob h
  refine zk_weak (zk_leS (zk_leS (zk_leS zk_leE))) (fScene_begin_L23_ok hd 500 q1 (0 : Int32) _ hq2 ?_)
  refine zk_aload_n (i := 0) dX8_begin_46 rfl rfl ?_
  refine zk_getR 4 8 0 dX8_begin_47 zf_X8_11 (Nat.le_of_ble_eq_true rfl) rfl rfl ?_
  refine zk_bipush dX8_begin_50 zkb_41 ?_
  refine zk_iconst dX8_begin_52 zki_0 ?_
  obtain ⟨m3, em3, h⟩ := zk_lt h
  refine zk_iastore' 5 42 dX8_begin_53 (Nat.le_of_ble_eq_true rfl) rfl (zk_inb_in (by decide)) em3 ?_
  exact zk_vreturn dX8_begin_54 rfl (zk_rVw (Option.some.inj h))
set_option maxRecDepth 100000 in
set_option maxHeartbeats 4000000 in
theorem fAlbum_lose_L2_ok {d : Nat} {Z : zkZ} (hd : 0 ≤ d)  : ∀ (n : Nat) (mem : zkM) (x1 : Int32) (z : zkM), fAlbum_lose_L2 n mem x1 = some z → zk_J zSX d zY_X0_lose Z 20 [none, none] [] z → zk_J zSX d zY_X0_lose Z 2 [some (.ref 21), some (.int x1)] [] mem := by
  intro n
  induction n with
  | zero => intro mem x1 z h; cases h
  | succ n ih =>
    intro mem x1 z h he
    rw [fAlbum_lose_L2] at h
    refine zk_iload_n (i := 1) dX0_lose_2 rfl rfl ?_
    refine zk_iconst dX0_lose_3 zki_2 ?_
    refine zk_icmp_ge 20 dX0_lose_4 rfl (fun c3 => ?_) (fun c3 => ?_)
    · have h := zk_it _ h c3
      cases h
      exact zk_weak (zk_leN (zk_leN zk_leE)) he
    · have h := zk_if _ h c3
      refine zk_aload_n (i := 0) dX0_lose_7 rfl rfl ?_
      refine zk_getR 21 0 1 dX0_lose_8 zf_X0_18 (Nat.le_of_ble_eq_true rfl) rfl rfl ?_
      refine zk_iload_n (i := 1) dX0_lose_11 rfl rfl ?_
      refine zk_iconst dX0_lose_12 zki_0 ?_
      obtain ⟨b1, h⟩ := zk_gd h
      obtain ⟨m2, em2, h⟩ := zk_lt h
      refine zk_zastore' 25 2 dX0_lose_13 (Nat.le_of_ble_eq_true rfl) rfl (by decide) (zk_inb_in b1) em2 ?_
      refine zk_iinc2 dX0_lose_14 rfl zki_1 (Nat.le_of_ble_eq_true rfl) rfl ?_
      refine zk_goto 2 dX0_lose_17 rfl ?_
      exact zk_weak (zk_leS (zk_leS zk_leE)) (ih m2 (x1 + (1 : Int32)) _ h he)
set_option maxRecDepth 100000 in
set_option maxHeartbeats 4000000 in
theorem fAlbum_lose_ok {d : Nat} (hd : 0 ≤ d) (mem : zkM) (z : zkM) (h : fAlbum_lose mem = some z) : zk_X zSX d zY_X0_lose [.ref 21] mem (none, z) := by
  unfold fAlbum_lose at h
  refine zk_meet (n := 1) (lv := [some (.ref 21), none]) zpn_X0 rfl (Nat.le_of_ble_eq_true rfl) ?_
  refine zk_iconst dX0_lose_0 zki_0 ?_
  refine zk_istore_n (i := 1) dX0_lose_1 rfl (Nat.le_of_ble_eq_true rfl) rfl ?_
  obtain ⟨q1, hq1, h⟩ := zk_ob h
  refine zk_weak (zk_leS (zk_leS zk_leE)) (fAlbum_lose_L2_ok hd 500 mem (0 : Int32) _ hq1 ?_)
  exact zk_vreturn dX0_lose_20 rfl (zk_rVw (Option.some.inj h))
