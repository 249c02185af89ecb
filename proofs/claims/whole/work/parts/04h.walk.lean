set_option maxRecDepth 100000 in
set_option maxHeartbeats 4000000 in
theorem fMd_readInto_11_ok {d : Nat} (hd : 3 ≤ d) (mem : zkM) (a2 : Int32) (a3 : Int32) (a4 : Int32) (z : Int32 × zkM) (h : fMd_readInto_11 mem a2 a3 a4 = some z) : zk_X zSM d zY_X12_readInto [.ref 0, .ref 11, .int a2, .int a3, .int a4] mem (some (.int z.1), z.2) := by
  unfold fMd_readInto_11 at h
  refine zk_meet (n := 1) (lv := [some (.ref 0), some (.ref 11), some (.int a2), some (.int a3), some (.int a4), none]) zpn_X12 rfl (Nat.le_of_ble_eq_true rfl) ?_
  refine zk_aload_n (i := 0) dX12_readInto_0 rfl rfl ?_
  refine zk_getI 0 12 19 dX12_readInto_1 zf_X12_99 (Nat.le_of_ble_eq_true rfl) rfl rfl ?_
  obtain ⟨v1, ev1, h⟩ := zk_lt h
  refine zk_istore' dX12_readInto_4 ev1 (Nat.le_of_ble_eq_true rfl) rfl ?_
  refine zk_aload_n (i := 0) dX12_readInto_6 rfl rfl ?_
  refine zk_aload_n (i := 0) dX12_readInto_7 rfl rfl ?_
  refine zk_getI 0 12 18 dX12_readInto_8 zf_X12_96 (Nat.le_of_ble_eq_true rfl) rfl rfl ?_
  refine zk_iconst dX12_readInto_11 zki_2 ?_
  obtain ⟨q2, hq2, h⟩ := zk_lt h
  have Jq2 : zk_J zSM d zY_X12_readInto (zk_R zSM (some (.int z.1), z.2)) 31 [some (.ref 0), some (.ref 11), some (.int a2), none, none, some (.int v1)] [.int (zk_b q2), .ref 0] mem := by
    obtain ⟨q5, hq5, h⟩ := zk_ob h
    refine zk_callVv zY_X12_must 0 12 [_] dX12_readInto_31 zl_X12_must zc_X12_109 zk_ok12 (Nat.le_of_ble_eq_true rfl) rfl (fMd_must_ok (d := 2) (Nat.le_refl _) mem _ _ hq5) (Nat.lt_of_lt_of_le (by decide) hd) (Nat.le_of_ble_eq_true rfl) ?_
    refine zk_aload_n (i := 0) dX12_readInto_34 rfl rfl ?_
    refine zk_getZ 0 12 20 dX12_readInto_35 zf_X12_102 (Nat.le_of_ble_eq_true rfl) rfl rfl ?_
    refine zk_if_ne 46 dX12_readInto_38 rfl (fun c8 => ?_) (fun c8 => ?_)
    · have h := zk_if _ h c8
      refine zk_iload dX12_readInto_46 rfl ?_
      exact zk_ireturn dX12_readInto_48 rfl (zk_rIw (Option.some.inj h))
    · have h := zk_it _ h c8
      refine zk_aload_n (i := 1) dX12_readInto_41 rfl rfl ?_
      refine zk_iload_n (i := 2) dX12_readInto_42 rfl rfl ?_
      refine zk_iload dX12_readInto_43 rfl ?_
      obtain ⟨b6, h⟩ := zk_gd h
      obtain ⟨m7, em7, h⟩ := zk_lt h
      refine zk_iastore' 11 30 dX12_readInto_45 (Nat.le_of_ble_eq_true rfl) rfl (zk_inb_in b6) em7 ?_
      refine zk_iload dX12_readInto_46 rfl ?_
      exact zk_ireturn dX12_readInto_48 rfl (zk_rIw (Option.some.inj h))
  have h := hq2
  clear hq2
  refine zk_icmp_ne 30 dX12_readInto_12 rfl (fun c4 => ?_) (fun c4 => ?_)
  · have h := zk_if _ h c4
    refine zk_iconst dX12_readInto_30 zki_0 ?_
    subst h
    exact zk_weak (zk_leS (zk_leS (zk_leS (zk_leN (zk_leN (zk_leS zk_leE)))))) Jq2
  · have h := zk_it _ h c4
    refine zk_iload dX12_readInto_15 rfl ?_
    refine zk_iload_n (i := 3) dX12_readInto_17 rfl rfl ?_
    refine zk_iload dX12_readInto_18 rfl ?_
    refine zk_callSi zY_X12_in [_, _, _] dX12_readInto_20 zl_X12_in zc_X12_73 (fMd_in_ok (d := 0) (Nat.le_refl _) mem _ _ _ _ rfl) (Nat.lt_of_lt_of_le (by decide) hd) (Nat.le_of_ble_eq_true rfl) ?_
    refine zk_if_eq 30 dX12_readInto_23 rfl (fun c3 => ?_) (fun c3 => ?_)
    · have h := zk_it _ h c3
      refine zk_iconst dX12_readInto_30 zki_0 ?_
      subst h
      exact zk_weak (zk_leS (zk_leS (zk_leS (zk_leN (zk_leN (zk_leS zk_leE)))))) Jq2
    · have h := zk_if _ h c3
      refine zk_iconst dX12_readInto_26 zki_1 ?_
      refine zk_goto 31 dX12_readInto_27 rfl ?_
      subst h
      exact zk_weak (zk_leS (zk_leS (zk_leS (zk_leN (zk_leN (zk_leS zk_leE)))))) Jq2
set_option maxRecDepth 100000 in
set_option maxHeartbeats 4000000 in
theorem fMd_mayJoin_ok {d : Nat} (hd : 1 ≤ d) (mem : zkM) (a1 : Int32) (a2 : Int32) (z : Bool) (h : fMd_mayJoin mem a1 a2 = some z) : zk_X zSM d zY_X12_mayJoin [.ref 0, .int a1, .int a2] mem (some (.int (zk_b z)), mem) := by
  unfold fMd_mayJoin at h
  refine zk_meet (n := 1) (lv := [some (.ref 0), some (.int a1), some (.int a2), none]) zpn_X12 rfl (Nat.le_of_ble_eq_true rfl) ?_
  refine zk_aload_n (i := 0) dX12_mayJoin_0 rfl rfl ?_
  refine zk_getR 0 12 22 dX12_mayJoin_1 zf_X12_38 (Nat.le_of_ble_eq_true rfl) rfl rfl ?_
  refine zk_iconst dX12_mayJoin_4 zki_3 ?_
  refine zk_iload_n (i := 1) dX12_mayJoin_5 rfl rfl ?_
  refine zk_imul dX12_mayJoin_6 ?_
  obtain ⟨b1, h⟩ := zk_gd h
  refine zk_iaload 10 24 dX12_mayJoin_7 (Nat.le_of_ble_eq_true rfl) rfl (zk_inb_in b1) ?_
  refine zk_aload_n (i := 0) dX12_mayJoin_8 rfl rfl ?_
  refine zk_getR 0 12 22 dX12_mayJoin_9 zf_X12_38 (Nat.le_of_ble_eq_true rfl) rfl rfl ?_
  refine zk_iconst dX12_mayJoin_12 zki_3 ?_
  refine zk_iload_n (i := 2) dX12_mayJoin_13 rfl rfl ?_
  refine zk_imul dX12_mayJoin_14 ?_
  obtain ⟨b2, h⟩ := zk_gd h
  refine zk_iaload 10 24 dX12_mayJoin_15 (Nat.le_of_ble_eq_true rfl) rfl (zk_inb_in b2) ?_
  refine zk_isub dX12_mayJoin_16 ?_
  obtain ⟨v3, ev3, h⟩ := zk_lt h
  refine zk_istore_n' (i := 3) dX12_mayJoin_17 rfl ev3 (Nat.le_of_ble_eq_true rfl) rfl ?_
  refine zk_iload_n (i := 1) dX12_mayJoin_18 rfl rfl ?_
  refine zk_iload_n (i := 2) dX12_mayJoin_19 rfl rfl ?_
  refine zk_icmp_eq 37 dX12_mayJoin_20 rfl (fun c5 => ?_) (fun c5 => ?_)
  · have h := zk_it _ h c5
    refine zk_iconst dX12_mayJoin_37 zki_0 ?_
    exact zk_zreturn dX12_mayJoin_38 rfl rfl (zk_rZ (Option.some.inj h))
  · have h := zk_if _ h c5
    refine zk_iload_n (i := 3) dX12_mayJoin_23 rfl rfl ?_
    refine zk_bipush dX12_mayJoin_24 zkb_m2 ?_
    refine zk_iconst dX12_mayJoin_26 zki_2 ?_
    refine zk_callSi zY_X12_in [_, _, _] dX12_mayJoin_27 zl_X12_in zc_X12_73 (fMd_in_ok (d := 0) (Nat.le_refl _) mem _ _ _ _ rfl) (Nat.lt_of_lt_of_le (by decide) hd) (Nat.le_of_ble_eq_true rfl) ?_
    refine zk_if_eq 37 dX12_mayJoin_30 rfl (fun c4 => ?_) (fun c4 => ?_)
    · have h := zk_it _ h c4
      refine zk_iconst dX12_mayJoin_37 zki_0 ?_
      exact zk_zreturn dX12_mayJoin_38 rfl rfl (zk_rZ (Option.some.inj h))
    · have h := zk_if _ h c4
      refine zk_iconst dX12_mayJoin_33 zki_1 ?_
      refine zk_goto 38 dX12_mayJoin_34 rfl ?_
      exact zk_zreturn dX12_mayJoin_38 rfl rfl (zk_rZ (Option.some.inj h))
set_option maxRecDepth 100000 in
set_option maxHeartbeats 4000000 in
theorem fMd_readPlank_ok {d : Nat} (hd : 4 ≤ d) (mem : zkM) (z : zkM) (h : fMd_readPlank mem = some z) : zk_X zSM d zY_X12_readPlank [.ref 0] mem (none, z) := by
  unfold fMd_readPlank at h
  refine zk_meet (n := 3) (lv := [some (.ref 0), none, none, none]) zpn_X12 rfl (Nat.le_of_ble_eq_true rfl) ?_
  refine zk_aload_n (i := 0) dX12_readPlank_0 rfl rfl ?_
  refine zk_aload_n (i := 0) dX12_readPlank_1 rfl rfl ?_
  refine zk_getI 0 12 23 dX12_readPlank_2 zf_X12_120 (Nat.le_of_ble_eq_true rfl) rfl rfl ?_
  refine zk_bipush dX12_readPlank_5 zkb_6 ?_
  obtain ⟨q1, hq1, h⟩ := zk_lt h
  have Jq1 : zk_J zSM d zY_X12_readPlank (zk_R zSM (none, z)) 15 [some (.ref 0), none, none, none] [.int (zk_b q1), .ref 0] mem := by
    obtain ⟨q3, hq3, h⟩ := zk_ob h
    refine zk_callVv zY_X12_must 0 12 [_] dX12_readPlank_15 zl_X12_must zc_X12_109 zk_ok12 (Nat.le_of_ble_eq_true rfl) rfl (fMd_must_ok (d := 2) (Nat.le_refl _) mem _ _ hq3) (Nat.lt_of_lt_of_le (by decide) hd) (Nat.le_of_ble_eq_true rfl) ?_
    refine zk_aload_n (i := 0) dX12_readPlank_18 rfl rfl ?_
    refine zk_getZ 0 12 20 dX12_readPlank_19 zf_X12_102 (Nat.le_of_ble_eq_true rfl) rfl rfl ?_
    refine zk_if_eq 26 dX12_readPlank_22 rfl (fun c22 => ?_) (fun c22 => ?_)
    · have h := zk_it _ h c22
      refine zk_iconst dX12_readPlank_26 zki_5 ?_
      refine zk_aload_n (i := 0) dX12_readPlank_27 rfl rfl ?_
      refine zk_getI 0 12 23 dX12_readPlank_28 zf_X12_120 (Nat.le_of_ble_eq_true rfl) rfl rfl ?_
      refine zk_imul dX12_readPlank_31 ?_
      obtain ⟨v4, ev4, h⟩ := zk_lt h
      refine zk_istore_n' (i := 1) dX12_readPlank_32 rfl ev4 (Nat.le_of_ble_eq_true rfl) rfl ?_
      refine zk_aload_n (i := 0) dX12_readPlank_33 rfl rfl ?_
      refine zk_aload_n (i := 0) dX12_readPlank_34 rfl rfl ?_
      refine zk_getR 0 12 24 dX12_readPlank_35 zf_X12_41 (Nat.le_of_ble_eq_true rfl) rfl rfl ?_
      refine zk_iload_n (i := 1) dX12_readPlank_38 rfl rfl ?_
      refine zk_iconst dX12_readPlank_39 zki_0 ?_
      refine zk_aload_n (i := 0) dX12_readPlank_40 rfl rfl ?_
      refine zk_getI 0 12 21 dX12_readPlank_41 zf_X12_113 (Nat.le_of_ble_eq_true rfl) rfl rfl ?_
      refine zk_iconst dX12_readPlank_44 zki_1 ?_
      refine zk_isub dX12_readPlank_45 ?_
      obtain ⟨q5, hq5, h⟩ := zk_ob h
      refine zk_callVi zY_X12_readInto 0 12 [_, _, _, _] dX12_readPlank_46 zl_X12_readInto zc_X12_116 zk_ok12 (Nat.le_of_ble_eq_true rfl) rfl (fMd_readInto_11_ok (d := 3) (Nat.le_refl _) q3 _ _ _ _ hq5) (Nat.lt_of_lt_of_le (by decide) hd) (Nat.le_of_ble_eq_true rfl) ?_
      refine zk_istore_n (i := 2) dX12_readPlank_49 rfl (Nat.le_of_ble_eq_true rfl) rfl ?_
      refine zk_aload_n (i := 0) dX12_readPlank_50 rfl rfl ?_
      refine zk_getI 0 12 19 dX12_readPlank_51 zf_X12_99 (Nat.le_of_ble_eq_true rfl) rfl rfl ?_
      obtain ⟨v6, ev6, h⟩ := zk_lt h
      refine zk_istore_n' (i := 3) dX12_readPlank_54 rfl ev6 (Nat.le_of_ble_eq_true rfl) rfl ?_
      refine zk_aload_n (i := 0) dX12_readPlank_55 rfl rfl ?_
      refine zk_aload_n (i := 0) dX12_readPlank_56 rfl rfl ?_
      refine zk_getI 0 12 18 dX12_readPlank_57 zf_X12_96 (Nat.le_of_ble_eq_true rfl) rfl rfl ?_
      refine zk_iconst dX12_readPlank_60 zki_2 ?_
      obtain ⟨q7, hq7, h⟩ := zk_ob h
      have Jq7 : zk_J zSM d zY_X12_readPlank (zk_R zSM (none, z)) 92 [some (.ref 0), some (.int v4), none, some (.int v6)] [.int (zk_b q7), .ref 0] q5.2 := by
        obtain ⟨q12, hq12, h⟩ := zk_ob h
        refine zk_callVv zY_X12_must 0 12 [_] dX12_readPlank_92 zl_X12_must zc_X12_109 zk_ok12 (Nat.le_of_ble_eq_true rfl) rfl (fMd_must_ok (d := 2) (Nat.le_refl _) q5.2 _ _ hq12) (Nat.lt_of_lt_of_le (by decide) hd) (Nat.le_of_ble_eq_true rfl) ?_
        refine zk_aload_n (i := 0) dX12_readPlank_95 rfl rfl ?_
        refine zk_getR 0 12 24 dX12_readPlank_96 zf_X12_41 (Nat.le_of_ble_eq_true rfl) rfl rfl ?_
        refine zk_iload_n (i := 1) dX12_readPlank_99 rfl rfl ?_
        refine zk_iconst dX12_readPlank_100 zki_1 ?_
        refine zk_iadd dX12_readPlank_101 ?_
        refine zk_iload_n (i := 3) dX12_readPlank_102 rfl rfl ?_
        obtain ⟨b13, h⟩ := zk_gd h
        obtain ⟨m14, em14, h⟩ := zk_lt h
        refine zk_iastore' 11 30 dX12_readPlank_103 (Nat.le_of_ble_eq_true rfl) rfl (zk_inb_in b13) em14 ?_
        refine zk_aload_n (i := 0) dX12_readPlank_104 rfl rfl ?_
        refine zk_aload_n (i := 0) dX12_readPlank_105 rfl rfl ?_
        refine zk_getR 0 12 24 dX12_readPlank_106 zf_X12_41 (Nat.le_of_ble_eq_true rfl) rfl rfl ?_
        refine zk_iload_n (i := 1) dX12_readPlank_109 rfl rfl ?_
        refine zk_iconst dX12_readPlank_110 zki_2 ?_
        refine zk_iadd dX12_readPlank_111 ?_
        refine zk_iconst dX12_readPlank_112 zki_1 ?_
        refine zk_bipush dX12_readPlank_113 zkb_40 ?_
        obtain ⟨q15, hq15, h⟩ := zk_ob h
        refine zk_callVi zY_X12_readInto 0 12 [_, _, _, _] dX12_readPlank_115 zl_X12_readInto zc_X12_116 zk_ok12 (Nat.le_of_ble_eq_true rfl) rfl (fMd_readInto_11_ok (d := 3) (Nat.le_refl _) m14 _ _ _ _ hq15) (Nat.lt_of_lt_of_le (by decide) hd) (Nat.le_of_ble_eq_true rfl) ?_
        refine zk_pop dX12_readPlank_118 rfl ?_
        refine zk_aload_n (i := 0) dX12_readPlank_119 rfl rfl ?_
        refine zk_aload_n (i := 0) dX12_readPlank_120 rfl rfl ?_
        refine zk_getR 0 12 24 dX12_readPlank_121 zf_X12_41 (Nat.le_of_ble_eq_true rfl) rfl rfl ?_
        refine zk_iload_n (i := 1) dX12_readPlank_124 rfl rfl ?_
        refine zk_iconst dX12_readPlank_125 zki_3 ?_
        refine zk_iadd dX12_readPlank_126 ?_
        refine zk_iconst dX12_readPlank_127 zki_0 ?_
        refine zk_iconst dX12_readPlank_128 zki_3 ?_
        obtain ⟨q16, hq16, h⟩ := zk_ob h
        refine zk_callVi zY_X12_readInto 0 12 [_, _, _, _] dX12_readPlank_129 zl_X12_readInto zc_X12_116 zk_ok12 (Nat.le_of_ble_eq_true rfl) rfl (fMd_readInto_11_ok (d := 3) (Nat.le_refl _) q15.2 _ _ _ _ hq16) (Nat.lt_of_lt_of_le (by decide) hd) (Nat.le_of_ble_eq_true rfl) ?_
        refine zk_pop dX12_readPlank_132 rfl ?_
        refine zk_aload_n (i := 0) dX12_readPlank_133 rfl rfl ?_
        refine zk_aload_n (i := 0) dX12_readPlank_134 rfl rfl ?_
        refine zk_getR 0 12 24 dX12_readPlank_135 zf_X12_41 (Nat.le_of_ble_eq_true rfl) rfl rfl ?_
        refine zk_iload_n (i := 1) dX12_readPlank_138 rfl rfl ?_
        refine zk_iconst dX12_readPlank_139 zki_4 ?_
        refine zk_iadd dX12_readPlank_140 ?_
        refine zk_iconst dX12_readPlank_141 zki_0 ?_
        refine zk_iconst dX12_readPlank_142 zki_3 ?_
        obtain ⟨q17, hq17, h⟩ := zk_ob h
        refine zk_callVi zY_X12_readInto 0 12 [_, _, _, _] dX12_readPlank_143 zl_X12_readInto zc_X12_116 zk_ok12 (Nat.le_of_ble_eq_true rfl) rfl (fMd_readInto_11_ok (d := 3) (Nat.le_refl _) q16.2 _ _ _ _ hq17) (Nat.lt_of_lt_of_le (by decide) hd) (Nat.le_of_ble_eq_true rfl) ?_
        refine zk_pop dX12_readPlank_146 rfl ?_
        refine zk_aload_n (i := 0) dX12_readPlank_147 rfl rfl ?_
        refine zk_aload_n (i := 0) dX12_readPlank_148 rfl rfl ?_
        refine zk_getI 0 12 18 dX12_readPlank_149 zf_X12_96 (Nat.le_of_ble_eq_true rfl) rfl rfl ?_
        refine zk_iconst dX12_readPlank_152 zki_3 ?_
        obtain ⟨q18, hq18, h⟩ := zk_lt h
        have Jq18 : zk_J zSM d zY_X12_readPlank (zk_R zSM (none, z)) 161 [some (.ref 0), none, none, none] [.int (zk_b q18), .ref 0] q17.2 := by
          obtain ⟨q20, hq20, h⟩ := zk_ob h
          refine zk_callVv zY_X12_must 0 12 [_] dX12_readPlank_161 zl_X12_must zc_X12_109 zk_ok12 (Nat.le_of_ble_eq_true rfl) rfl (fMd_must_ok (d := 2) (Nat.le_refl _) q17.2 _ _ hq20) (Nat.lt_of_lt_of_le (by decide) hd) (Nat.le_of_ble_eq_true rfl) ?_
          refine zk_aload_n (i := 0) dX12_readPlank_164 rfl rfl ?_
          refine zk_dup dX12_readPlank_165 rfl ?_
          refine zk_getI 0 12 23 dX12_readPlank_166 zf_X12_120 (Nat.le_of_ble_eq_true rfl) rfl rfl ?_
          refine zk_iconst dX12_readPlank_169 zki_1 ?_
          refine zk_iadd dX12_readPlank_170 ?_
          obtain ⟨m21, em21, h⟩ := zk_lt h
          refine zk_putI' 0 12 23 dX12_readPlank_171 zp_X12_120 (Nat.le_of_ble_eq_true rfl) rfl rfl em21 ?_
          exact zk_vreturn dX12_readPlank_174 rfl (zk_rVw (Option.some.inj h))
        have h := hq18
        clear hq18
        refine zk_icmp_ne 160 dX12_readPlank_153 rfl (fun c19 => ?_) (fun c19 => ?_)
        · have h := zk_if _ h c19
          refine zk_iconst dX12_readPlank_160 zki_0 ?_
          subst h
          exact zk_weak (zk_leS (zk_leN (zk_leN (zk_leN zk_leE)))) Jq18
        · have h := zk_it _ h c19
          refine zk_iconst dX12_readPlank_156 zki_1 ?_
          refine zk_goto 161 dX12_readPlank_157 rfl ?_
          subst h
          exact zk_weak (zk_leS (zk_leN (zk_leN (zk_leN zk_leE)))) Jq18
      have h := hq7
      clear hq7
      refine zk_icmp_ne 91 dX12_readPlank_61 rfl (fun c11 => ?_) (fun c11 => ?_)
      · have h := zk_if _ h c11
        refine zk_iconst dX12_readPlank_91 zki_0 ?_
        cases h
        exact zk_weak (zk_leS (zk_leS (zk_leN (zk_leS zk_leE)))) Jq7
      · have h := zk_it _ h c11
        refine zk_iload_n (i := 3) dX12_readPlank_64 rfl rfl ?_
        refine zk_iconst dX12_readPlank_65 zki_0 ?_
        refine zk_aload_n (i := 0) dX12_readPlank_66 rfl rfl ?_
        refine zk_getI 0 12 21 dX12_readPlank_67 zf_X12_113 (Nat.le_of_ble_eq_true rfl) rfl rfl ?_
        refine zk_iconst dX12_readPlank_70 zki_1 ?_
        refine zk_isub dX12_readPlank_71 ?_
        refine zk_callSi zY_X12_in [_, _, _] dX12_readPlank_72 zl_X12_in zc_X12_73 (fMd_in_ok (d := 0) (Nat.le_refl _) q5.2 _ _ _ _ rfl) (Nat.lt_of_lt_of_le (by decide) hd) (Nat.le_of_ble_eq_true rfl) ?_
        refine zk_if_eq 91 dX12_readPlank_75 rfl (fun c10 => ?_) (fun c10 => ?_)
        · have h := zk_it _ h c10
          refine zk_iconst dX12_readPlank_91 zki_0 ?_
          cases h
          exact zk_weak (zk_leS (zk_leS (zk_leN (zk_leS zk_leE)))) Jq7
        · have h := zk_if _ h c10
          refine zk_aload_n (i := 0) dX12_readPlank_78 rfl rfl ?_
          refine zk_iload_n (i := 2) dX12_readPlank_79 rfl rfl ?_
          refine zk_iload_n (i := 3) dX12_readPlank_80 rfl rfl ?_
          obtain ⟨q8, hq8, h⟩ := zk_ob h
          refine zk_callVi zY_X12_mayJoin 0 12 [_, _] dX12_readPlank_81 zl_X12_mayJoin zc_X12_123 zk_ok12 (Nat.le_of_ble_eq_true rfl) rfl (fMd_mayJoin_ok (d := 1) (Nat.le_refl _) q5.2 _ _ _ hq8) (Nat.lt_of_lt_of_le (by decide) hd) (Nat.le_of_ble_eq_true rfl) ?_
          refine zk_if_eq 91 dX12_readPlank_84 rfl (fun c9 => ?_) (fun c9 => ?_)
          · have h := zk_it _ h c9
            refine zk_iconst dX12_readPlank_91 zki_0 ?_
            cases h
            exact zk_weak (zk_leS (zk_leS (zk_leN (zk_leS zk_leE)))) Jq7
          · have h := zk_if _ h c9
            refine zk_iconst dX12_readPlank_87 zki_1 ?_
            refine zk_goto 92 dX12_readPlank_88 rfl ?_
            cases h
            exact zk_weak (zk_leS (zk_leS (zk_leN (zk_leS zk_leE)))) Jq7
    · have h := zk_if _ h c22
      exact zk_vreturn dX12_readPlank_25 rfl (zk_rVw (Option.some.inj h))
  have h := hq1
  clear hq1
  refine zk_icmp_ge 14 dX12_readPlank_7 rfl (fun c2 => ?_) (fun c2 => ?_)
  · have h := zk_it _ h c2
    refine zk_iconst dX12_readPlank_14 zki_0 ?_
    subst h
    exact zk_weak (zk_leS (zk_leN (zk_leN (zk_leN zk_leE)))) Jq1
  · have h := zk_if _ h c2
    refine zk_iconst dX12_readPlank_10 zki_1 ?_
    refine zk_goto 15 dX12_readPlank_11 rfl ?_
    subst h
    exact zk_weak (zk_leS (zk_leN (zk_leN (zk_leN zk_leE)))) Jq1
set_option maxRecDepth 100000 in
set_option maxHeartbeats 4000000 in
theorem fMd_readInto_10_ok {d : Nat} (hd : 3 ≤ d) (mem : zkM) (a2 : Int32) (a3 : Int32) (a4 : Int32) (z : Int32 × zkM) (h : fMd_readInto_10 mem a2 a3 a4 = some z) : zk_X zSM d zY_X12_readInto [.ref 0, .ref 10, .int a2, .int a3, .int a4] mem (some (.int z.1), z.2) := by
  unfold fMd_readInto_10 at h
  refine zk_meet (n := 1) (lv := [some (.ref 0), some (.ref 10), some (.int a2), some (.int a3), some (.int a4), none]) zpn_X12 rfl (Nat.le_of_ble_eq_true rfl) ?_
  refine zk_aload_n (i := 0) dX12_readInto_0 rfl rfl ?_
  refine zk_getI 0 12 19 dX12_readInto_1 zf_X12_99 (Nat.le_of_ble_eq_true rfl) rfl rfl ?_
  obtain ⟨v1, ev1, h⟩ := zk_lt h
  refine zk_istore' dX12_readInto_4 ev1 (Nat.le_of_ble_eq_true rfl) rfl ?_
  refine zk_aload_n (i := 0) dX12_readInto_6 rfl rfl ?_
  refine zk_aload_n (i := 0) dX12_readInto_7 rfl rfl ?_
  refine zk_getI 0 12 18 dX12_readInto_8 zf_X12_96 (Nat.le_of_ble_eq_true rfl) rfl rfl ?_
  refine zk_iconst dX12_readInto_11 zki_2 ?_
  obtain ⟨q2, hq2, h⟩ := zk_lt h
  have Jq2 : zk_J zSM d zY_X12_readInto (zk_R zSM (some (.int z.1), z.2)) 31 [some (.ref 0), some (.ref 10), some (.int a2), none, none, some (.int v1)] [.int (zk_b q2), .ref 0] mem := by
    obtain ⟨q5, hq5, h⟩ := zk_ob h
    refine zk_callVv zY_X12_must 0 12 [_] dX12_readInto_31 zl_X12_must zc_X12_109 zk_ok12 (Nat.le_of_ble_eq_true rfl) rfl (fMd_must_ok (d := 2) (Nat.le_refl _) mem _ _ hq5) (Nat.lt_of_lt_of_le (by decide) hd) (Nat.le_of_ble_eq_true rfl) ?_
    refine zk_aload_n (i := 0) dX12_readInto_34 rfl rfl ?_
    refine zk_getZ 0 12 20 dX12_readInto_35 zf_X12_102 (Nat.le_of_ble_eq_true rfl) rfl rfl ?_
    refine zk_if_ne 46 dX12_readInto_38 rfl (fun c8 => ?_) (fun c8 => ?_)
    · have h := zk_if _ h c8
      refine zk_iload dX12_readInto_46 rfl ?_
      exact zk_ireturn dX12_readInto_48 rfl (zk_rIw (Option.some.inj h))
    · have h := zk_it _ h c8
      refine zk_aload_n (i := 1) dX12_readInto_41 rfl rfl ?_
      refine zk_iload_n (i := 2) dX12_readInto_42 rfl rfl ?_
      refine zk_iload dX12_readInto_43 rfl ?_
      obtain ⟨b6, h⟩ := zk_gd h
      obtain ⟨m7, em7, h⟩ := zk_lt h
      refine zk_iastore' 10 24 dX12_readInto_45 (Nat.le_of_ble_eq_true rfl) rfl (zk_inb_in b6) em7 ?_
      refine zk_iload dX12_readInto_46 rfl ?_
      exact zk_ireturn dX12_readInto_48 rfl (zk_rIw (Option.some.inj h))
  have h := hq2
  clear hq2
  refine zk_icmp_ne 30 dX12_readInto_12 rfl (fun c4 => ?_) (fun c4 => ?_)
  · have h := zk_if _ h c4
    refine zk_iconst dX12_readInto_30 zki_0 ?_
    subst h
    exact zk_weak (zk_leS (zk_leS (zk_leS (zk_leN (zk_leN (zk_leS zk_leE)))))) Jq2
  · have h := zk_it _ h c4
    refine zk_iload dX12_readInto_15 rfl ?_
    refine zk_iload_n (i := 3) dX12_readInto_17 rfl rfl ?_
    refine zk_iload dX12_readInto_18 rfl ?_
    refine zk_callSi zY_X12_in [_, _, _] dX12_readInto_20 zl_X12_in zc_X12_73 (fMd_in_ok (d := 0) (Nat.le_refl _) mem _ _ _ _ rfl) (Nat.lt_of_lt_of_le (by decide) hd) (Nat.le_of_ble_eq_true rfl) ?_
    refine zk_if_eq 30 dX12_readInto_23 rfl (fun c3 => ?_) (fun c3 => ?_)
    · have h := zk_it _ h c3
      refine zk_iconst dX12_readInto_30 zki_0 ?_
      subst h
      exact zk_weak (zk_leS (zk_leS (zk_leS (zk_leN (zk_leN (zk_leS zk_leE)))))) Jq2
    · have h := zk_if _ h c3
      refine zk_iconst dX12_readInto_26 zki_1 ?_
      refine zk_goto 31 dX12_readInto_27 rfl ?_
      subst h
      exact zk_weak (zk_leS (zk_leS (zk_leS (zk_leN (zk_leN (zk_leS zk_leE)))))) Jq2
set_option maxRecDepth 100000 in
set_option maxHeartbeats 4000000 in
theorem fMd_readBough_ok {d : Nat} (hd : 4 ≤ d) (mem : zkM) (z : zkM) (h : fMd_readBough mem = some z) : zk_X zSM d zY_X12_readBough [.ref 0] mem (none, z) := by
  unfold fMd_readBough at h
  refine zk_meet (n := 1) (lv := [some (.ref 0), none]) zpn_X12 rfl (Nat.le_of_ble_eq_true rfl) ?_
  refine zk_aload_n (i := 0) dX12_readBough_0 rfl rfl ?_
  refine zk_aload_n (i := 0) dX12_readBough_1 rfl rfl ?_
  refine zk_getI 0 12 21 dX12_readBough_2 zf_X12_113 (Nat.le_of_ble_eq_true rfl) rfl rfl ?_
  refine zk_bipush dX12_readBough_5 zkb_8 ?_
  obtain ⟨q1, hq1, h⟩ := zk_lt h
  have Jq1 : zk_J zSM d zY_X12_readBough (zk_R zSM (none, z)) 15 [some (.ref 0), none] [.int (zk_b q1), .ref 0] mem := by
    obtain ⟨q3, hq3, h⟩ := zk_ob h
    refine zk_callVv zY_X12_must 0 12 [_] dX12_readBough_15 zl_X12_must zc_X12_109 zk_ok12 (Nat.le_of_ble_eq_true rfl) rfl (fMd_must_ok (d := 2) (Nat.le_refl _) mem _ _ hq3) (Nat.lt_of_lt_of_le (by decide) hd) (Nat.le_of_ble_eq_true rfl) ?_
    refine zk_aload_n (i := 0) dX12_readBough_18 rfl rfl ?_
    refine zk_getZ 0 12 20 dX12_readBough_19 zf_X12_102 (Nat.le_of_ble_eq_true rfl) rfl rfl ?_
    refine zk_if_eq 26 dX12_readBough_22 rfl (fun c12 => ?_) (fun c12 => ?_)
    · have h := zk_it _ h c12
      refine zk_iconst dX12_readBough_26 zki_3 ?_
      refine zk_aload_n (i := 0) dX12_readBough_27 rfl rfl ?_
      refine zk_getI 0 12 21 dX12_readBough_28 zf_X12_113 (Nat.le_of_ble_eq_true rfl) rfl rfl ?_
      refine zk_imul dX12_readBough_31 ?_
      obtain ⟨v4, ev4, h⟩ := zk_lt h
      refine zk_istore_n' (i := 1) dX12_readBough_32 rfl ev4 (Nat.le_of_ble_eq_true rfl) rfl ?_
      refine zk_aload_n (i := 0) dX12_readBough_33 rfl rfl ?_
      refine zk_aload_n (i := 0) dX12_readBough_34 rfl rfl ?_
      refine zk_getR 0 12 22 dX12_readBough_35 zf_X12_38 (Nat.le_of_ble_eq_true rfl) rfl rfl ?_
      refine zk_iload_n (i := 1) dX12_readBough_38 rfl rfl ?_
      refine zk_iconst dX12_readBough_39 zki_0 ?_
      refine zk_bipush dX12_readBough_40 zkb_20 ?_
      obtain ⟨q5, hq5, h⟩ := zk_ob h
      refine zk_callVi zY_X12_readInto 0 12 [_, _, _, _] dX12_readBough_42 zl_X12_readInto zc_X12_116 zk_ok12 (Nat.le_of_ble_eq_true rfl) rfl (fMd_readInto_10_ok (d := 3) (Nat.le_refl _) q3 _ _ _ _ hq5) (Nat.lt_of_lt_of_le (by decide) hd) (Nat.le_of_ble_eq_true rfl) ?_
      refine zk_pop dX12_readBough_45 rfl ?_
      refine zk_aload_n (i := 0) dX12_readBough_46 rfl rfl ?_
      refine zk_aload_n (i := 0) dX12_readBough_47 rfl rfl ?_
      refine zk_getR 0 12 22 dX12_readBough_48 zf_X12_38 (Nat.le_of_ble_eq_true rfl) rfl rfl ?_
      refine zk_iload_n (i := 1) dX12_readBough_51 rfl rfl ?_
      refine zk_iconst dX12_readBough_52 zki_1 ?_
      refine zk_iadd dX12_readBough_53 ?_
      refine zk_iconst dX12_readBough_54 zki_1 ?_
      refine zk_bipush dX12_readBough_55 zkb_60 ?_
      obtain ⟨q6, hq6, h⟩ := zk_ob h
      refine zk_callVi zY_X12_readInto 0 12 [_, _, _, _] dX12_readBough_57 zl_X12_readInto zc_X12_116 zk_ok12 (Nat.le_of_ble_eq_true rfl) rfl (fMd_readInto_10_ok (d := 3) (Nat.le_refl _) q5.2 _ _ _ _ hq6) (Nat.lt_of_lt_of_le (by decide) hd) (Nat.le_of_ble_eq_true rfl) ?_
      refine zk_pop dX12_readBough_60 rfl ?_
      refine zk_aload_n (i := 0) dX12_readBough_61 rfl rfl ?_
      refine zk_aload_n (i := 0) dX12_readBough_62 rfl rfl ?_
      refine zk_getR 0 12 22 dX12_readBough_63 zf_X12_38 (Nat.le_of_ble_eq_true rfl) rfl rfl ?_
      refine zk_iload_n (i := 1) dX12_readBough_66 rfl rfl ?_
      refine zk_iconst dX12_readBough_67 zki_2 ?_
      refine zk_iadd dX12_readBough_68 ?_
      refine zk_iconst dX12_readBough_69 zki_0 ?_
      refine zk_iconst dX12_readBough_70 zki_3 ?_
      obtain ⟨q7, hq7, h⟩ := zk_ob h
      refine zk_callVi zY_X12_readInto 0 12 [_, _, _, _] dX12_readBough_71 zl_X12_readInto zc_X12_116 zk_ok12 (Nat.le_of_ble_eq_true rfl) rfl (fMd_readInto_10_ok (d := 3) (Nat.le_refl _) q6.2 _ _ _ _ hq7) (Nat.lt_of_lt_of_le (by decide) hd) (Nat.le_of_ble_eq_true rfl) ?_
      refine zk_pop dX12_readBough_74 rfl ?_
      refine zk_aload_n (i := 0) dX12_readBough_75 rfl rfl ?_
      refine zk_aload_n (i := 0) dX12_readBough_76 rfl rfl ?_
      refine zk_getI 0 12 18 dX12_readBough_77 zf_X12_96 (Nat.le_of_ble_eq_true rfl) rfl rfl ?_
      refine zk_iconst dX12_readBough_80 zki_3 ?_
      obtain ⟨q8, hq8, h⟩ := zk_lt h
      have Jq8 : zk_J zSM d zY_X12_readBough (zk_R zSM (none, z)) 89 [some (.ref 0), none] [.int (zk_b q8), .ref 0] q7.2 := by
        obtain ⟨q10, hq10, h⟩ := zk_ob h
        refine zk_callVv zY_X12_must 0 12 [_] dX12_readBough_89 zl_X12_must zc_X12_109 zk_ok12 (Nat.le_of_ble_eq_true rfl) rfl (fMd_must_ok (d := 2) (Nat.le_refl _) q7.2 _ _ hq10) (Nat.lt_of_lt_of_le (by decide) hd) (Nat.le_of_ble_eq_true rfl) ?_
        refine zk_aload_n (i := 0) dX12_readBough_92 rfl rfl ?_
        refine zk_dup dX12_readBough_93 rfl ?_
        refine zk_getI 0 12 21 dX12_readBough_94 zf_X12_113 (Nat.le_of_ble_eq_true rfl) rfl rfl ?_
        refine zk_iconst dX12_readBough_97 zki_1 ?_
        refine zk_iadd dX12_readBough_98 ?_
        obtain ⟨m11, em11, h⟩ := zk_lt h
        refine zk_putI' 0 12 21 dX12_readBough_99 zp_X12_113 (Nat.le_of_ble_eq_true rfl) rfl rfl em11 ?_
        exact zk_vreturn dX12_readBough_102 rfl (zk_rVw (Option.some.inj h))
      have h := hq8
      clear hq8
      refine zk_icmp_ne 88 dX12_readBough_81 rfl (fun c9 => ?_) (fun c9 => ?_)
      · have h := zk_if _ h c9
        refine zk_iconst dX12_readBough_88 zki_0 ?_
        subst h
        exact zk_weak (zk_leS (zk_leN zk_leE)) Jq8
      · have h := zk_it _ h c9
        refine zk_iconst dX12_readBough_84 zki_1 ?_
        refine zk_goto 89 dX12_readBough_85 rfl ?_
        subst h
        exact zk_weak (zk_leS (zk_leN zk_leE)) Jq8
    · have h := zk_if _ h c12
      exact zk_vreturn dX12_readBough_25 rfl (zk_rVw (Option.some.inj h))
  have h := hq1
  clear hq1
  refine zk_icmp_ge 14 dX12_readBough_7 rfl (fun c2 => ?_) (fun c2 => ?_)
  · have h := zk_it _ h c2
    refine zk_iconst dX12_readBough_14 zki_0 ?_
    subst h
    exact zk_weak (zk_leS (zk_leN zk_leE)) Jq1
  · have h := zk_if _ h c2
    refine zk_iconst dX12_readBough_10 zki_1 ?_
    refine zk_goto 15 dX12_readBough_11 rfl ?_
    subst h
    exact zk_weak (zk_leS (zk_leN zk_leE)) Jq1
set_option maxRecDepth 100000 in
set_option maxHeartbeats 4000000 in
theorem fMd_readItem_ok {d : Nat} (hd : 5 ≤ d) (mem : zkM) (z : zkM) (h : fMd_readItem mem = some z) : zk_X zSM d zY_X12_readItem [.ref 0] mem (none, z) := by
  unfold fMd_readItem at h
  refine zk_meet (n := 1) (lv := [some (.ref 0), none]) zpn_X12 rfl (Nat.le_of_ble_eq_true rfl) ?_
  refine zk_aload_n (i := 0) dX12_readItem_0 rfl rfl ?_
  refine zk_getI 0 12 18 dX12_readItem_1 zf_X12_96 (Nat.le_of_ble_eq_true rfl) rfl rfl ?_
  refine zk_iconst dX12_readItem_4 zki_1 ?_
  obtain ⟨q1, hq1, h⟩ := zk_lt h
  have Jq1 : zk_J zSM d zY_X12_readItem (zk_R zSM (none, z)) 16 [some (.ref 0), none] [.int q1] mem := by
    refine zk_istore_n (i := 1) dX12_readItem_16 rfl (Nat.le_of_ble_eq_true rfl) rfl ?_
    refine zk_iload_n (i := 1) dX12_readItem_17 rfl rfl ?_
    refine zk_bipush dX12_readItem_18 zkb_98 ?_
    refine zk_icmp_ne 30 dX12_readItem_20 rfl (fun c9 => ?_) (fun c9 => ?_)
    · have h := zk_if _ h c9
      refine zk_iload_n (i := 1) dX12_readItem_30 rfl rfl ?_
      refine zk_bipush dX12_readItem_31 zkb_112 ?_
      refine zk_icmp_ne 43 dX12_readItem_33 rfl (fun c7 => ?_) (fun c7 => ?_)
      · have h := zk_if _ h c7
        refine zk_iload_n (i := 1) dX12_readItem_43 rfl rfl ?_
        refine zk_bipush dX12_readItem_44 zkb_99 ?_
        refine zk_icmp_ne 56 dX12_readItem_46 rfl (fun c5 => ?_) (fun c5 => ?_)
        · have h := zk_if _ h c5
          refine zk_aload_n (i := 0) dX12_readItem_56 rfl rfl ?_
          refine zk_iconst dX12_readItem_57 zki_1 ?_
          obtain ⟨m3, em3, h⟩ := zk_lt h
          refine zk_putZ' 0 12 20 dX12_readItem_58 zp_X12_102 (Nat.le_of_ble_eq_true rfl) rfl rfl rfl rfl em3 ?_
          exact zk_vreturn dX12_readItem_61 rfl (zk_rVw (Option.some.inj h))
        · have h := zk_it _ h c5
          refine zk_aload_n (i := 0) dX12_readItem_49 rfl rfl ?_
          obtain ⟨q4, hq4, h⟩ := zk_ob h
          refine zk_callVv zY_X12_readChild 0 12 [] dX12_readItem_50 zl_X12_readChild zc_X12_136 zk_ok12 (Nat.le_of_ble_eq_true rfl) rfl (fMd_readChild_ok (d := 4) (Nat.le_refl _) mem  _ hq4) (Nat.lt_of_lt_of_le (by decide) hd) (Nat.le_of_ble_eq_true rfl) ?_
          refine zk_goto 61 dX12_readItem_53 rfl ?_
          exact zk_vreturn dX12_readItem_61 rfl (zk_rVw (Option.some.inj h))
      · have h := zk_it _ h c7
        refine zk_aload_n (i := 0) dX12_readItem_36 rfl rfl ?_
        obtain ⟨q6, hq6, h⟩ := zk_ob h
        refine zk_callVv zY_X12_readPlank 0 12 [] dX12_readItem_37 zl_X12_readPlank zc_X12_133 zk_ok12 (Nat.le_of_ble_eq_true rfl) rfl (fMd_readPlank_ok (d := 4) (Nat.le_refl _) mem  _ hq6) (Nat.lt_of_lt_of_le (by decide) hd) (Nat.le_of_ble_eq_true rfl) ?_
        refine zk_goto 61 dX12_readItem_40 rfl ?_
        exact zk_vreturn dX12_readItem_61 rfl (zk_rVw (Option.some.inj h))
    · have h := zk_it _ h c9
      refine zk_aload_n (i := 0) dX12_readItem_23 rfl rfl ?_
      obtain ⟨q8, hq8, h⟩ := zk_ob h
      refine zk_callVv zY_X12_readBough 0 12 [] dX12_readItem_24 zl_X12_readBough zc_X12_130 zk_ok12 (Nat.le_of_ble_eq_true rfl) rfl (fMd_readBough_ok (d := 4) (Nat.le_refl _) mem  _ hq8) (Nat.lt_of_lt_of_le (by decide) hd) (Nat.le_of_ble_eq_true rfl) ?_
      refine zk_goto 61 dX12_readItem_27 rfl ?_
      exact zk_vreturn dX12_readItem_61 rfl (zk_rVw (Option.some.inj h))
  have h := hq1
  clear hq1
  refine zk_icmp_ne 15 dX12_readItem_5 rfl (fun c2 => ?_) (fun c2 => ?_)
  · have h := zk_if _ h c2
    refine zk_iconst dX12_readItem_15 zki_0 ?_
    subst h
    exact zk_weak (zk_leS (zk_leN zk_leE)) Jq1
  · have h := zk_it _ h c2
    refine zk_aload_n (i := 0) dX12_readItem_8 rfl rfl ?_
    refine zk_getI 0 12 19 dX12_readItem_9 zf_X12_99 (Nat.le_of_ble_eq_true rfl) rfl rfl ?_
    refine zk_goto 16 dX12_readItem_12 rfl ?_
    subst h
    exact zk_weak (zk_leS (zk_leN zk_leE)) Jq1
set_option maxRecDepth 100000 in
set_option maxHeartbeats 4000000 in
theorem fMd_tree_L31_ok {d : Nat} {Z : zkZ} (hd : 6 ≤ d)  : ∀ (n : Nat) (mem : zkM) (x1 : Int32) (z : Int32 × zkM), fMd_tree_L31 n mem x1 = some z → zk_J zSM d zY_X12_tree Z 55 [some (.ref 0), some (.int z.1), none, none] [] z.2 → zk_J zSM d zY_X12_tree Z 31 [some (.ref 0), some (.int x1), none, none] [] mem := by
  intro n
  induction n with
  | zero => intro mem x1 z h; cases h
  | succ n ih =>
    intro mem x1 z h he
    rw [fMd_tree_L31] at h
    refine zk_aload_n (i := 0) dX12_tree_31 rfl rfl ?_
    refine zk_getI 0 12 18 dX12_tree_32 zf_X12_96 (Nat.le_of_ble_eq_true rfl) rfl rfl ?_
    refine zk_if_eq 55 dX12_tree_35 rfl (fun c3 => ?_) (fun c3 => ?_)
    · have h := zk_it _ h c3
      cases h
      exact zk_weak (zk_leS (zk_leS (zk_leN (zk_leN zk_leE)))) he
    · have h := zk_if _ h c3
      refine zk_aload_n (i := 0) dX12_tree_38 rfl rfl ?_
      refine zk_getZ 0 12 20 dX12_tree_39 zf_X12_102 (Nat.le_of_ble_eq_true rfl) rfl rfl ?_
      refine zk_if_ne 55 dX12_tree_42 rfl (fun c2 => ?_) (fun c2 => ?_)
      · have h := zk_if _ h c2
        cases h
        exact zk_weak (zk_leS (zk_leS (zk_leN (zk_leN zk_leE)))) he
      · have h := zk_it _ h c2
        refine zk_aload_n (i := 0) dX12_tree_45 rfl rfl ?_
        obtain ⟨q1, hq1, h⟩ := zk_ob h
        refine zk_callVv zY_X12_readItem 0 12 [] dX12_tree_46 zl_X12_readItem zc_X12_139 zk_ok12 (Nat.le_of_ble_eq_true rfl) rfl (fMd_readItem_ok (d := 5) (Nat.le_refl _) mem  _ hq1) (Nat.lt_of_lt_of_le (by decide) hd) (Nat.le_of_ble_eq_true rfl) ?_
        refine zk_iinc2 dX12_tree_49 rfl zki_1 (Nat.le_of_ble_eq_true rfl) rfl ?_
        refine zk_goto 31 dX12_tree_52 rfl ?_
        exact zk_weak (zk_leS (zk_leS (zk_leN (zk_leN zk_leE)))) (ih q1 (x1 + (1 : Int32)) _ h he)
set_option maxRecDepth 100000 in
set_option maxHeartbeats 4000000 in
theorem fMd_tree_L96_ok {d : Nat} {Z : zkZ} (hd : 6 ≤ d)  : ∀ (n : Nat) (mem : zkM) (x1 : Int32) (x2 : Int32) (z : zkM), fMd_tree_L96 n mem x2 = some z → zk_J zSM d zY_X12_tree Z 115 [some (.ref 0), some (.int x1), none, none] [] z → zk_J zSM d zY_X12_tree Z 96 [some (.ref 0), some (.int x1), some (.int x2), none] [] mem := by
  intro n
  induction n with
  | zero => intro mem x1 x2 z h; cases h
  | succ n ih =>
    intro mem x1 x2 z h he
    rw [fMd_tree_L96] at h
    refine zk_iload_n (i := 2) dX12_tree_96 rfl rfl ?_
    refine zk_bipush dX12_tree_97 zkb_42 ?_
    refine zk_icmp_ge 115 dX12_tree_99 rfl (fun c3 => ?_) (fun c3 => ?_)
    · have h := zk_it _ h c3
      cases h
      exact zk_weak (zk_leS (zk_leS (zk_leN (zk_leN zk_leE)))) he
    · have h := zk_if _ h c3
      refine zk_aload_n (i := 0) dX12_tree_102 rfl rfl ?_
      refine zk_getR 0 12 6 dX12_tree_103 zf_X12_19 (Nat.le_of_ble_eq_true rfl) rfl rfl ?_
      refine zk_iload_n (i := 2) dX12_tree_106 rfl rfl ?_
      refine zk_iconst dX12_tree_107 zki_0 ?_
      obtain ⟨b1, h⟩ := zk_gd h
      obtain ⟨m2, em2, h⟩ := zk_lt h
      refine zk_iastore' 4 42 dX12_tree_108 (Nat.le_of_ble_eq_true rfl) rfl (zk_inb_in b1) em2 ?_
      refine zk_iinc2 dX12_tree_109 rfl zki_1 (Nat.le_of_ble_eq_true rfl) rfl ?_
      refine zk_goto 96 dX12_tree_112 rfl ?_
      exact zk_weak (zk_leS (zk_leS (zk_leS (zk_leN zk_leE)))) (ih m2 x1 (x2 + (1 : Int32)) _ h he)
set_option maxRecDepth 100000 in
set_option maxHeartbeats 4000000 in
theorem fMd_tree_L117_ok {d : Nat} {Z : zkZ} (hd : 6 ≤ d)  : ∀ (n : Nat) (mem : zkM) (x1 : Int32) (x2 : Int32) (z : zkM), fMd_tree_L117 n mem x2 = some z → zk_J zSM d zY_X12_tree Z 141 [some (.ref 0), some (.int x1), none, none] [] z → zk_J zSM d zY_X12_tree Z 117 [some (.ref 0), some (.int x1), some (.int x2), none] [] mem := by
  intro n
  induction n with
  | zero => intro mem x1 x2 z h; cases h
  | succ n ih =>
    intro mem x1 x2 z h he
    rw [fMd_tree_L117] at h
    refine zk_iload_n (i := 2) dX12_tree_117 rfl rfl ?_
    refine zk_bipush dX12_tree_118 zkb_24 ?_
    refine zk_icmp_ge 141 dX12_tree_120 rfl (fun c4 => ?_) (fun c4 => ?_)
    · have h := zk_it _ h c4
      cases h
      exact zk_weak (zk_leS (zk_leS (zk_leN (zk_leN zk_leE)))) he
    · have h := zk_if _ h c4
      refine zk_aload_n (i := 0) dX12_tree_123 rfl rfl ?_
      refine zk_getR 0 12 1 dX12_tree_124 zf_X12_7 (Nat.le_of_ble_eq_true rfl) rfl rfl ?_
      refine zk_iload_n (i := 2) dX12_tree_127 rfl rfl ?_
      refine zk_aload_n (i := 0) dX12_tree_128 rfl rfl ?_
      refine zk_getR 0 12 22 dX12_tree_129 zf_X12_38 (Nat.le_of_ble_eq_true rfl) rfl rfl ?_
      refine zk_iload_n (i := 2) dX12_tree_132 rfl rfl ?_
      obtain ⟨b1, h⟩ := zk_gd h
      refine zk_iaload 10 24 dX12_tree_133 (Nat.le_of_ble_eq_true rfl) rfl (zk_inb_in b1) ?_
      obtain ⟨b2, h⟩ := zk_gd h
      obtain ⟨m3, em3, h⟩ := zk_lt h
      refine zk_iastore' 1 24 dX12_tree_134 (Nat.le_of_ble_eq_true rfl) rfl (zk_inb_in b2) em3 ?_
      refine zk_iinc2 dX12_tree_135 rfl zki_1 (Nat.le_of_ble_eq_true rfl) rfl ?_
      refine zk_goto 117 dX12_tree_138 rfl ?_
      exact zk_weak (zk_leS (zk_leS (zk_leS (zk_leN zk_leE)))) (ih m3 x1 (x2 + (1 : Int32)) _ h he)
set_option maxRecDepth 100000 in
set_option maxHeartbeats 4000000 in
theorem fMd_tree_L153_ok {d : Nat} {Z : zkZ} (hd : 6 ≤ d)  : ∀ (n : Nat) (mem : zkM) (x1 : Int32) (x2 : Int32) (x3 : Int32) (z : zkM), fMd_tree_L153 n mem x2 x3 = some z → zk_J zSM d zY_X12_tree Z 184 [some (.ref 0), some (.int x1), some (.int x2), none] [] z → zk_J zSM d zY_X12_tree Z 153 [some (.ref 0), some (.int x1), some (.int x2), some (.int x3)] [] mem := by
  intro n
  induction n with
  | zero => intro mem x1 x2 x3 z h; cases h
  | succ n ih =>
    intro mem x1 x2 x3 z h he
    rw [fMd_tree_L153] at h
    refine zk_iload_n (i := 3) dX12_tree_153 rfl rfl ?_
    refine zk_iconst dX12_tree_154 zki_3 ?_
    refine zk_icmp_ge 184 dX12_tree_155 rfl (fun c4 => ?_) (fun c4 => ?_)
    · have h := zk_it _ h c4
      cases h
      exact zk_weak (zk_leS (zk_leS (zk_leS (zk_leN zk_leE)))) he
    · have h := zk_if _ h c4
      refine zk_aload_n (i := 0) dX12_tree_158 rfl rfl ?_
      refine zk_getR 0 12 3 dX12_tree_159 zf_X12_13 (Nat.le_of_ble_eq_true rfl) rfl rfl ?_
      refine zk_iconst dX12_tree_162 zki_3 ?_
      refine zk_iload_n (i := 2) dX12_tree_163 rfl rfl ?_
      refine zk_imul dX12_tree_164 ?_
      refine zk_iload_n (i := 3) dX12_tree_165 rfl rfl ?_
      refine zk_iadd dX12_tree_166 ?_
      refine zk_aload_n (i := 0) dX12_tree_167 rfl rfl ?_
      refine zk_getR 0 12 24 dX12_tree_168 zf_X12_41 (Nat.le_of_ble_eq_true rfl) rfl rfl ?_
      refine zk_iconst dX12_tree_171 zki_5 ?_
      refine zk_iload_n (i := 2) dX12_tree_172 rfl rfl ?_
      refine zk_imul dX12_tree_173 ?_
      refine zk_iload_n (i := 3) dX12_tree_174 rfl rfl ?_
      refine zk_iadd dX12_tree_175 ?_
      obtain ⟨b1, h⟩ := zk_gd h
      refine zk_iaload 11 30 dX12_tree_176 (Nat.le_of_ble_eq_true rfl) rfl (zk_inb_in b1) ?_
      obtain ⟨b2, h⟩ := zk_gd h
      obtain ⟨m3, em3, h⟩ := zk_lt h
      refine zk_iastore' 2 18 dX12_tree_177 (Nat.le_of_ble_eq_true rfl) rfl (zk_inb_in b2) em3 ?_
      refine zk_iinc2 dX12_tree_178 rfl zki_1 (Nat.le_of_ble_eq_true rfl) rfl ?_
      refine zk_goto 153 dX12_tree_181 rfl ?_
      exact zk_weak (zk_leS (zk_leS (zk_leS (zk_leS zk_leE)))) (ih m3 x1 x2 (x3 + (1 : Int32)) _ h he)
set_option maxRecDepth 100000 in
set_option maxHeartbeats 4000000 in
theorem fMd_tree_L143_ok {d : Nat} {Z : zkZ} (hd : 6 ≤ d)  : ∀ (n : Nat) (mem : zkM) (x1 : Int32) (x2 : Int32) (z : zkM), fMd_tree_L143 n mem x2 = some z → zk_J zSM d zY_X12_tree Z 236 [some (.ref 0), some (.int x1), none, none] [] z → zk_J zSM d zY_X12_tree Z 143 [some (.ref 0), some (.int x1), some (.int x2), none] [] mem := by
  intro n
  induction n with
  | zero => intro mem x1 x2 z h; cases h
  | succ n ih =>
    intro mem x1 x2 z h he
    rw [fMd_tree_L143] at h
    refine zk_iload_n (i := 2) dX12_tree_143 rfl rfl ?_
    refine zk_aload_n (i := 0) dX12_tree_144 rfl rfl ?_
    refine zk_getI 0 12 2 dX12_tree_145 zf_X12_77 (Nat.le_of_ble_eq_true rfl) rfl rfl ?_
    refine zk_icmp_ge 236 dX12_tree_148 rfl (fun c8 => ?_) (fun c8 => ?_)
    · have h := zk_it _ h c8
      cases h
      exact zk_weak (zk_leS (zk_leS (zk_leN (zk_leN zk_leE)))) he
    · have h := zk_if _ h c8
      refine zk_iconst dX12_tree_151 zki_0 ?_
      refine zk_istore_n (i := 3) dX12_tree_152 rfl (Nat.le_of_ble_eq_true rfl) rfl ?_
      obtain ⟨q1, hq1, h⟩ := zk_ob h
      refine zk_weak (zk_leS (zk_leS (zk_leS (zk_leS zk_leE)))) (fMd_tree_L153_ok hd 500 mem x1 x2 (0 : Int32) _ hq1 ?_)
      refine zk_aload_n (i := 0) dX12_tree_184 rfl rfl ?_
      refine zk_getR 0 12 6 dX12_tree_185 zf_X12_19 (Nat.le_of_ble_eq_true rfl) rfl rfl ?_
      refine zk_bipush dX12_tree_188 zkb_6 ?_
      refine zk_bipush dX12_tree_190 zkb_6 ?_
      refine zk_iload_n (i := 2) dX12_tree_192 rfl rfl ?_
      refine zk_imul dX12_tree_193 ?_
      refine zk_iadd dX12_tree_194 ?_
      refine zk_aload_n (i := 0) dX12_tree_195 rfl rfl ?_
      refine zk_getR 0 12 24 dX12_tree_196 zf_X12_41 (Nat.le_of_ble_eq_true rfl) rfl rfl ?_
      refine zk_iconst dX12_tree_199 zki_5 ?_
      refine zk_iload_n (i := 2) dX12_tree_200 rfl rfl ?_
      refine zk_imul dX12_tree_201 ?_
      refine zk_iconst dX12_tree_202 zki_3 ?_
      refine zk_iadd dX12_tree_203 ?_
      obtain ⟨b2, h⟩ := zk_gd h
      refine zk_iaload 11 30 dX12_tree_204 (Nat.le_of_ble_eq_true rfl) rfl (zk_inb_in b2) ?_
      obtain ⟨b3, h⟩ := zk_gd h
      obtain ⟨m4, em4, h⟩ := zk_lt h
      refine zk_iastore' 4 42 dX12_tree_205 (Nat.le_of_ble_eq_true rfl) rfl (zk_inb_in b3) em4 ?_
      refine zk_aload_n (i := 0) dX12_tree_206 rfl rfl ?_
      refine zk_getR 0 12 6 dX12_tree_207 zf_X12_19 (Nat.le_of_ble_eq_true rfl) rfl rfl ?_
      refine zk_bipush dX12_tree_210 zkb_6 ?_
      refine zk_bipush dX12_tree_212 zkb_6 ?_
      refine zk_iload_n (i := 2) dX12_tree_214 rfl rfl ?_
      refine zk_imul dX12_tree_215 ?_
      refine zk_iadd dX12_tree_216 ?_
      refine zk_iconst dX12_tree_217 zki_3 ?_
      refine zk_iadd dX12_tree_218 ?_
      refine zk_aload_n (i := 0) dX12_tree_219 rfl rfl ?_
      refine zk_getR 0 12 24 dX12_tree_220 zf_X12_41 (Nat.le_of_ble_eq_true rfl) rfl rfl ?_
      refine zk_iconst dX12_tree_223 zki_5 ?_
      refine zk_iload_n (i := 2) dX12_tree_224 rfl rfl ?_
      refine zk_imul dX12_tree_225 ?_
      refine zk_iconst dX12_tree_226 zki_4 ?_
      refine zk_iadd dX12_tree_227 ?_
      obtain ⟨b5, h⟩ := zk_gd h
      refine zk_iaload 11 30 dX12_tree_228 (Nat.le_of_ble_eq_true rfl) rfl (zk_inb_in b5) ?_
      obtain ⟨b6, h⟩ := zk_gd h
      obtain ⟨m7, em7, h⟩ := zk_lt h
      refine zk_iastore' 4 42 dX12_tree_229 (Nat.le_of_ble_eq_true rfl) rfl (zk_inb_in b6) em7 ?_
      refine zk_iinc2 dX12_tree_230 rfl zki_1 (Nat.le_of_ble_eq_true rfl) rfl ?_
      refine zk_goto 143 dX12_tree_233 rfl ?_
      exact zk_weak (zk_leS (zk_leS (zk_leS (zk_leN zk_leE)))) (ih m7 x1 (x2 + (1 : Int32)) _ h he)
set_option maxRecDepth 100000 in
set_option maxHeartbeats 4000000 in
theorem fMd_tree_L238_ok {d : Nat} {Z : zkZ} (hd : 6 ≤ d)  : ∀ (n : Nat) (mem : zkM) (x1 : Int32) (x2 : Int32) (z : zkM), fMd_tree_L238 n mem x2 = some z → zk_J zSM d zY_X12_tree Z 262 [some (.ref 0), some (.int x1), none, none] [] z → zk_J zSM d zY_X12_tree Z 238 [some (.ref 0), some (.int x1), some (.int x2), none] [] mem := by
  intro n
  induction n with
  | zero => intro mem x1 x2 z h; cases h
  | succ n ih =>
    intro mem x1 x2 z h he
    rw [fMd_tree_L238] at h
    refine zk_iload_n (i := 2) dX12_tree_238 rfl rfl ?_
    refine zk_bipush dX12_tree_239 zkb_10 ?_
    refine zk_icmp_ge 262 dX12_tree_241 rfl (fun c4 => ?_) (fun c4 => ?_)
    · have h := zk_it _ h c4
      cases h
      exact zk_weak (zk_leS (zk_leS (zk_leN (zk_leN zk_leE)))) he
    · have h := zk_if _ h c4
      refine zk_aload_n (i := 0) dX12_tree_244 rfl rfl ?_
      refine zk_getR 0 12 5 dX12_tree_245 zf_X12_16 (Nat.le_of_ble_eq_true rfl) rfl rfl ?_
      refine zk_iload_n (i := 2) dX12_tree_248 rfl rfl ?_
      refine zk_aload_n (i := 0) dX12_tree_249 rfl rfl ?_
      refine zk_getR 0 12 26 dX12_tree_250 zf_X12_44 (Nat.le_of_ble_eq_true rfl) rfl rfl ?_
      refine zk_iload_n (i := 2) dX12_tree_253 rfl rfl ?_
      obtain ⟨b1, h⟩ := zk_gd h
      refine zk_iaload 12 10 dX12_tree_254 (Nat.le_of_ble_eq_true rfl) rfl (zk_inb_in b1) ?_
      obtain ⟨b2, h⟩ := zk_gd h
      obtain ⟨m3, em3, h⟩ := zk_lt h
      refine zk_iastore' 3 10 dX12_tree_255 (Nat.le_of_ble_eq_true rfl) rfl (zk_inb_in b2) em3 ?_
      refine zk_iinc2 dX12_tree_256 rfl zki_1 (Nat.le_of_ble_eq_true rfl) rfl ?_
      refine zk_goto 238 dX12_tree_259 rfl ?_
      exact zk_weak (zk_leS (zk_leS (zk_leS (zk_leN zk_leE)))) (ih m3 x1 (x2 + (1 : Int32)) _ h he)
set_option maxRecDepth 100000 in
set_option maxHeartbeats 4000000 in
theorem fMd_tree_L264_ok {d : Nat} {Z : zkZ} (hd : 6 ≤ d)  : ∀ (n : Nat) (mem : zkM) (x1 : Int32) (x2 : Int32) (z : zkM), fMd_tree_L264 n mem x2 = some z → zk_J zSM d zY_X12_tree Z 285 [some (.ref 0), some (.int x1), none, none] [] z → zk_J zSM d zY_X12_tree Z 264 [some (.ref 0), some (.int x1), some (.int x2), none] [] mem := by
  intro n
  induction n with
  | zero => intro mem x1 x2 z h; cases h
  | succ n ih =>
    intro mem x1 x2 z h he
    rw [fMd_tree_L264] at h
    refine zk_iload_n (i := 2) dX12_tree_264 rfl rfl ?_
    refine zk_iconst dX12_tree_265 zki_5 ?_
    refine zk_icmp_ge 285 dX12_tree_266 rfl (fun c3 => ?_) (fun c3 => ?_)
    · have h := zk_it _ h c3
      cases h
      exact zk_weak (zk_leS (zk_leS (zk_leN (zk_leN zk_leE)))) he
    · have h := zk_if _ h c3
      refine zk_aload_n (i := 0) dX12_tree_269 rfl rfl ?_
      refine zk_getR 0 12 6 dX12_tree_270 zf_X12_19 (Nat.le_of_ble_eq_true rfl) rfl rfl ?_
      refine zk_iconst dX12_tree_273 zki_1 ?_
      refine zk_iload_n (i := 2) dX12_tree_274 rfl rfl ?_
      refine zk_iadd dX12_tree_275 ?_
      refine zk_bipush dX12_tree_276 zkb_m9 ?_
      obtain ⟨b1, h⟩ := zk_gd h
      obtain ⟨m2, em2, h⟩ := zk_lt h
      refine zk_iastore' 4 42 dX12_tree_278 (Nat.le_of_ble_eq_true rfl) rfl (zk_inb_in b1) em2 ?_
      refine zk_iinc2 dX12_tree_279 rfl zki_1 (Nat.le_of_ble_eq_true rfl) rfl ?_
      refine zk_goto 264 dX12_tree_282 rfl ?_
      exact zk_weak (zk_leS (zk_leS (zk_leS (zk_leN zk_leE)))) (ih m2 x1 (x2 + (1 : Int32)) _ h he)
set_option maxRecDepth 100000 in
set_option maxHeartbeats 4000000 in
theorem fMd_tree_ok {d : Nat} (hd : 6 ≤ d) (mem : zkM) (z : Int32 × zkM) (h : fMd_tree mem = some z) : zk_X zSM d zY_X12_tree [.ref 0] mem (some (.int z.1), z.2) := by
  unfold fMd_tree at h
  refine zk_meet (n := 3) (lv := [some (.ref 0), none, none, none]) zpn_X12 rfl (Nat.le_of_ble_eq_true rfl) ?_
  refine zk_aload_n (i := 0) dX12_tree_0 rfl rfl ?_
  refine zk_iconst dX12_tree_1 zki_0 ?_
  obtain ⟨m1, em1, h⟩ := zk_lt h
  refine zk_putI' 0 12 16 dX12_tree_2 zp_X12_86 (Nat.le_of_ble_eq_true rfl) rfl rfl em1 ?_
  refine zk_aload_n (i := 0) dX12_tree_5 rfl rfl ?_
  refine zk_iconst dX12_tree_6 zki_0 ?_
  obtain ⟨m2, em2, h⟩ := zk_lt h
  refine zk_putZ' 0 12 20 dX12_tree_7 zp_X12_102 (Nat.le_of_ble_eq_true rfl) rfl rfl rfl rfl em2 ?_
  refine zk_aload_n (i := 0) dX12_tree_10 rfl rfl ?_
  refine zk_iconst dX12_tree_11 zki_0 ?_
  obtain ⟨m3, em3, h⟩ := zk_lt h
  refine zk_putI' 0 12 21 dX12_tree_12 zp_X12_113 (Nat.le_of_ble_eq_true rfl) rfl rfl em3 ?_
  refine zk_aload_n (i := 0) dX12_tree_15 rfl rfl ?_
  refine zk_iconst dX12_tree_16 zki_0 ?_
  obtain ⟨m4, em4, h⟩ := zk_lt h
  refine zk_putI' 0 12 23 dX12_tree_17 zp_X12_120 (Nat.le_of_ble_eq_true rfl) rfl rfl em4 ?_
  refine zk_aload_n (i := 0) dX12_tree_20 rfl rfl ?_
  refine zk_iconst dX12_tree_21 zki_0 ?_
  obtain ⟨m5, em5, h⟩ := zk_lt h
  refine zk_putI' 0 12 25 dX12_tree_22 zp_X12_127 (Nat.le_of_ble_eq_true rfl) rfl rfl em5 ?_
  refine zk_iconst dX12_tree_25 zki_0 ?_
  refine zk_istore_n (i := 1) dX12_tree_26 rfl (Nat.le_of_ble_eq_true rfl) rfl ?_
  refine zk_aload_n (i := 0) dX12_tree_27 rfl rfl ?_
  obtain ⟨q6, hq6, h⟩ := zk_ob h
  refine zk_callVv zY_X12_next 0 12 [] dX12_tree_28 zl_X12_next zc_X12_106 zk_ok12 (Nat.le_of_ble_eq_true rfl) rfl (fMd_next_ok (d := 1) (Nat.le_refl _) m5  _ hq6) (Nat.lt_of_lt_of_le (by decide) hd) (Nat.le_of_ble_eq_true rfl) ?_
  obtain ⟨q7, hq7, h⟩ := zk_ob h
  refine zk_weak (zk_leS (zk_leS (zk_leN (zk_leN zk_leE)))) (fMd_tree_L31_ok hd 500 q6 (0 : Int32) _ hq7 ?_)
  refine zk_aload_n (i := 0) dX12_tree_55 rfl rfl ?_
  refine zk_getZ 0 12 20 dX12_tree_56 zf_X12_102 (Nat.le_of_ble_eq_true rfl) rfl rfl ?_
  refine zk_if_eq 70 dX12_tree_59 rfl (fun c21 => ?_) (fun c21 => ?_)
  · have h := zk_it _ h c21
    refine zk_aload_n (i := 0) dX12_tree_70 rfl rfl ?_
    refine zk_aload_n (i := 0) dX12_tree_71 rfl rfl ?_
    refine zk_getI 0 12 21 dX12_tree_72 zf_X12_113 (Nat.le_of_ble_eq_true rfl) rfl rfl ?_
    obtain ⟨m8, em8, h⟩ := zk_lt h
    refine zk_putI' 0 12 0 dX12_tree_75 zp_X12_69 (Nat.le_of_ble_eq_true rfl) rfl rfl em8 ?_
    refine zk_aload_n (i := 0) dX12_tree_78 rfl rfl ?_
    refine zk_aload_n (i := 0) dX12_tree_79 rfl rfl ?_
    refine zk_getI 0 12 23 dX12_tree_80 zf_X12_120 (Nat.le_of_ble_eq_true rfl) rfl rfl ?_
    obtain ⟨m9, em9, h⟩ := zk_lt h
    refine zk_putI' 0 12 2 dX12_tree_83 zp_X12_77 (Nat.le_of_ble_eq_true rfl) rfl rfl em9 ?_
    refine zk_aload_n (i := 0) dX12_tree_86 rfl rfl ?_
    refine zk_aload_n (i := 0) dX12_tree_87 rfl rfl ?_
    refine zk_getI 0 12 25 dX12_tree_88 zf_X12_127 (Nat.le_of_ble_eq_true rfl) rfl rfl ?_
    obtain ⟨m10, em10, h⟩ := zk_lt h
    refine zk_putI' 0 12 4 dX12_tree_91 zp_X12_80 (Nat.le_of_ble_eq_true rfl) rfl rfl em10 ?_
    refine zk_iconst dX12_tree_94 zki_0 ?_
    refine zk_istore_n (i := 2) dX12_tree_95 rfl (Nat.le_of_ble_eq_true rfl) rfl ?_
    obtain ⟨q11, hq11, h⟩ := zk_ob h
    refine zk_weak (zk_leS (zk_leS (zk_leS (zk_leN zk_leE)))) (fMd_tree_L96_ok hd 500 m10 q7.1 (0 : Int32) _ hq11 ?_)
    refine zk_iconst dX12_tree_115 zki_0 ?_
    refine zk_istore_n (i := 2) dX12_tree_116 rfl (Nat.le_of_ble_eq_true rfl) rfl ?_
    obtain ⟨q12, hq12, h⟩ := zk_ob h
    refine zk_weak (zk_leS (zk_leS (zk_leS (zk_leN zk_leE)))) (fMd_tree_L117_ok hd 500 q11 q7.1 (0 : Int32) _ hq12 ?_)
    refine zk_iconst dX12_tree_141 zki_0 ?_
    refine zk_istore_n (i := 2) dX12_tree_142 rfl (Nat.le_of_ble_eq_true rfl) rfl ?_
    obtain ⟨q13, hq13, h⟩ := zk_ob h
    refine zk_weak (zk_leS (zk_leS (zk_leS (zk_leN zk_leE)))) (fMd_tree_L143_ok hd 500 q12 q7.1 (0 : Int32) _ hq13 ?_)
    refine zk_iconst dX12_tree_236 zki_0 ?_
    refine zk_istore_n (i := 2) dX12_tree_237 rfl (Nat.le_of_ble_eq_true rfl) rfl ?_
    obtain ⟨q14, hq14, h⟩ := zk_ob h
    refine zk_weak (zk_leS (zk_leS (zk_leS (zk_leN zk_leE)))) (fMd_tree_L238_ok hd 500 q13 q7.1 (0 : Int32) _ hq14 ?_)
    refine zk_iconst dX12_tree_262 zki_0 ?_
    refine zk_istore_n (i := 2) dX12_tree_263 rfl (Nat.le_of_ble_eq_true rfl) rfl ?_
    obtain ⟨q15, hq15, h⟩ := zk_ob h
    refine zk_weak (zk_leS (zk_leS (zk_leS (zk_leN zk_leE)))) (fMd_tree_L264_ok hd 500 q14 q7.1 (0 : Int32) _ hq15 ?_)
    refine zk_aload_n (i := 0) dX12_tree_285 rfl rfl ?_
    refine zk_iconst dX12_tree_286 zki_0 ?_
    obtain ⟨m16, em16, h⟩ := zk_lt h
    refine zk_putI' 0 12 8 dX12_tree_287 zp_X12_142 (Nat.le_of_ble_eq_true rfl) rfl rfl em16 ?_
    refine zk_aload_n (i := 0) dX12_tree_290 rfl rfl ?_
    refine zk_iconst dX12_tree_291 zki_0 ?_
    obtain ⟨m17, em17, h⟩ := zk_lt h
    refine zk_putI' 0 12 11 dX12_tree_292 zp_X12_145 (Nat.le_of_ble_eq_true rfl) rfl rfl em17 ?_
    refine zk_aload_n (i := 0) dX12_tree_295 rfl rfl ?_
    refine zk_getR 0 12 10 dX12_tree_296 zf_X12_28 (Nat.le_of_ble_eq_true rfl) rfl rfl ?_
    refine zk_iconst dX12_tree_299 zki_0 ?_
    refine zk_iconst dX12_tree_300 zki_0 ?_
    obtain ⟨m18, em18, h⟩ := zk_lt h
    refine zk_zastore' 7 2 dX12_tree_301 (Nat.le_of_ble_eq_true rfl) rfl (by decide) (zk_inb_in (by decide)) em18 ?_
    refine zk_aload_n (i := 0) dX12_tree_302 rfl rfl ?_
    refine zk_getR 0 12 10 dX12_tree_303 zf_X12_28 (Nat.le_of_ble_eq_true rfl) rfl rfl ?_
    refine zk_iconst dX12_tree_306 zki_1 ?_
    refine zk_iconst dX12_tree_307 zki_0 ?_
    obtain ⟨m19, em19, h⟩ := zk_lt h
    refine zk_zastore' 7 2 dX12_tree_308 (Nat.le_of_ble_eq_true rfl) rfl (by decide) (zk_inb_in (by decide)) em19 ?_
    refine zk_aload_n (i := 0) dX12_tree_309 rfl rfl ?_
    refine zk_iconst dX12_tree_310 zki_0 ?_
    obtain ⟨m20, em20, h⟩ := zk_lt h
    refine zk_putI' 0 12 15 dX12_tree_311 zp_X12_83 (Nat.le_of_ble_eq_true rfl) rfl rfl em20 ?_
    refine zk_iload_n (i := 1) dX12_tree_314 rfl rfl ?_
    exact zk_ireturn dX12_tree_315 rfl (zk_rIw (Option.some.inj h))
  · have h := zk_if _ h c21
    refine zk_bipush dX12_tree_62 zkb_m10 ?_
    refine zk_aload_n (i := 0) dX12_tree_64 rfl rfl ?_
    refine zk_getI 0 12 17 dX12_tree_65 zf_X12_93 (Nat.le_of_ble_eq_true rfl) rfl rfl ?_
    refine zk_isub dX12_tree_68 ?_
    exact zk_ireturn dX12_tree_69 rfl (zk_rIw (Option.some.inj h))
set_option maxRecDepth 100000 in
set_option maxHeartbeats 4000000 in
theorem fMd_isBough_ok {d : Nat} (hd : 1 ≤ d) (mem : zkM) (a1 : Int32) (z : Bool) (h : fMd_isBough mem a1 = z) : zk_X zSM d zY_X12_isBough [.ref 0, .int a1] mem (some (.int (zk_b z)), mem) := by
  unfold fMd_isBough at h
  refine zk_meet (n := 0) (lv := [some (.ref 0), some (.int a1)]) zpn_X12 rfl (Nat.le_of_ble_eq_true rfl) ?_
  refine zk_iload_n (i := 1) dX12_isBough_0 rfl rfl ?_
  refine zk_iconst dX12_isBough_1 zki_0 ?_
  refine zk_aload_n (i := 0) dX12_isBough_2 rfl rfl ?_
  refine zk_getI 0 12 0 dX12_isBough_3 zf_X12_69 (Nat.le_of_ble_eq_true rfl) rfl rfl ?_
  refine zk_iconst dX12_isBough_6 zki_1 ?_
  refine zk_isub dX12_isBough_7 ?_
  refine zk_callSi zY_X12_in [_, _, _] dX12_isBough_8 zl_X12_in zc_X12_73 (fMd_in_ok (d := 0) (Nat.le_refl _) mem _ _ _ _ rfl) (Nat.lt_of_lt_of_le (by decide) hd) (Nat.le_of_ble_eq_true rfl) ?_
  exact zk_zreturn dX12_isBough_11 rfl (zk_nb _) (zk_rZ h)
set_option maxRecDepth 100000 in
set_option maxHeartbeats 4000000 in
theorem fMd_layNow_L2_ok {d : Nat} {Z : zkZ} (hd : 0 ≤ d)  : ∀ (n : Nat) (mem : zkM) (x1 : Int32) (z : zkM), fMd_layNow_L2 n mem x1 = some z → zk_J zSM d zY_X12_layNow Z 27 [none, none] [] z → zk_J zSM d zY_X12_layNow Z 2 [some (.ref 0), some (.int x1)] [] mem := by
  intro n
  induction n with
  | zero => intro mem x1 z h; cases h
  | succ n ih =>
    intro mem x1 z h he
    rw [fMd_layNow_L2] at h
    refine zk_iload_n (i := 1) dX12_layNow_2 rfl rfl ?_
    refine zk_iconst dX12_layNow_3 zki_5 ?_
    refine zk_icmp_ge 27 dX12_layNow_4 rfl (fun c4 => ?_) (fun c4 => ?_)
    · have h := zk_it _ h c4
      cases h
      exact zk_weak (zk_leN (zk_leN zk_leE)) he
    · have h := zk_if _ h c4
      refine zk_aload_n (i := 0) dX12_layNow_7 rfl rfl ?_
      refine zk_getR 0 12 27 dX12_layNow_8 zf_X12_47 (Nat.le_of_ble_eq_true rfl) rfl rfl ?_
      refine zk_iload_n (i := 1) dX12_layNow_11 rfl rfl ?_
      refine zk_aload_n (i := 0) dX12_layNow_12 rfl rfl ?_
      refine zk_getR 0 12 6 dX12_layNow_13 zf_X12_19 (Nat.le_of_ble_eq_true rfl) rfl rfl ?_
      refine zk_iconst dX12_layNow_16 zki_1 ?_
      refine zk_iload_n (i := 1) dX12_layNow_17 rfl rfl ?_
      refine zk_iadd dX12_layNow_18 ?_
      obtain ⟨b1, h⟩ := zk_gd h
      refine zk_iaload 4 42 dX12_layNow_19 (Nat.le_of_ble_eq_true rfl) rfl (zk_inb_in b1) ?_
      obtain ⟨b2, h⟩ := zk_gd h
      obtain ⟨m3, em3, h⟩ := zk_lt h
      refine zk_iastore' 13 5 dX12_layNow_20 (Nat.le_of_ble_eq_true rfl) rfl (zk_inb_in b2) em3 ?_
      refine zk_iinc2 dX12_layNow_21 rfl zki_1 (Nat.le_of_ble_eq_true rfl) rfl ?_
      refine zk_goto 2 dX12_layNow_24 rfl ?_
      exact zk_weak (zk_leS (zk_leS zk_leE)) (ih m3 (x1 + (1 : Int32)) _ h he)
set_option maxRecDepth 100000 in
set_option maxHeartbeats 4000000 in
theorem fMd_layNow_ok {d : Nat} (hd : 0 ≤ d) (mem : zkM) (z : zkM) (h : fMd_layNow mem = some z) : zk_X zSM d zY_X12_layNow [.ref 0] mem (none, z) := by
  unfold fMd_layNow at h
  refine zk_meet (n := 1) (lv := [some (.ref 0), none]) zpn_X12 rfl (Nat.le_of_ble_eq_true rfl) ?_
  refine zk_iconst dX12_layNow_0 zki_0 ?_
  refine zk_istore_n (i := 1) dX12_layNow_1 rfl (Nat.le_of_ble_eq_true rfl) rfl ?_
  obtain ⟨q1, hq1, h⟩ := zk_ob h
  refine zk_weak (zk_leS (zk_leS zk_leE)) (fMd_layNow_L2_ok hd 500 mem (0 : Int32) _ hq1 ?_)
  exact zk_vreturn dX12_layNow_27 rfl (zk_rVw (Option.some.inj h))
set_option maxRecDepth 100000 in
set_option maxHeartbeats 4000000 in
theorem fMd_layLoads_L2_ok {d : Nat} {Z : zkZ} (hd : 0 ≤ d)  : ∀ (n : Nat) (mem : zkM) (x1 : Int32) (z : zkM), fMd_layLoads_L2 n mem x1 = some z → zk_J zSM d zY_X12_layLoads Z 21 [some (.ref 0), none] [] z → zk_J zSM d zY_X12_layLoads Z 2 [some (.ref 0), some (.int x1)] [] mem := by
  intro n
  induction n with
  | zero => intro mem x1 z h; cases h
  | succ n ih =>
    intro mem x1 z h he
    rw [fMd_layLoads_L2] at h
    refine zk_iload_n (i := 1) dX12_layLoads_2 rfl rfl ?_
    refine zk_bipush dX12_layLoads_3 zkb_6 ?_
    refine zk_icmp_ge 21 dX12_layLoads_5 rfl (fun c3 => ?_) (fun c3 => ?_)
    · have h := zk_it _ h c3
      cases h
      exact zk_weak (zk_leS (zk_leN zk_leE)) he
    · have h := zk_if _ h c3
      refine zk_aload_n (i := 0) dX12_layLoads_8 rfl rfl ?_
      refine zk_getR 0 12 28 dX12_layLoads_9 zf_X12_50 (Nat.le_of_ble_eq_true rfl) rfl rfl ?_
      refine zk_iload_n (i := 1) dX12_layLoads_12 rfl rfl ?_
      refine zk_iconst dX12_layLoads_13 zki_0 ?_
      obtain ⟨b1, h⟩ := zk_gd h
      obtain ⟨m2, em2, h⟩ := zk_lt h
      refine zk_iastore' 14 6 dX12_layLoads_14 (Nat.le_of_ble_eq_true rfl) rfl (zk_inb_in b1) em2 ?_
      refine zk_iinc2 dX12_layLoads_15 rfl zki_1 (Nat.le_of_ble_eq_true rfl) rfl ?_
      refine zk_goto 2 dX12_layLoads_18 rfl ?_
      exact zk_weak (zk_leS (zk_leS zk_leE)) (ih m2 (x1 + (1 : Int32)) _ h he)
set_option maxRecDepth 100000 in
set_option maxHeartbeats 4000000 in
theorem fMd_layLoads_L23_ok {d : Nat} {Z : zkZ} (hd : 0 ≤ d)  : ∀ (n : Nat) (mem : zkM) (x1 : Int32) (z : zkM), fMd_layLoads_L23 n mem x1 = some z → zk_J zSM d zY_X12_layLoads Z 42 [some (.ref 0), none] [] z → zk_J zSM d zY_X12_layLoads Z 23 [some (.ref 0), some (.int x1)] [] mem := by
  intro n
  induction n with
  | zero => intro mem x1 z h; cases h
  | succ n ih =>
    intro mem x1 z h he
    rw [fMd_layLoads_L23] at h
    refine zk_iload_n (i := 1) dX12_layLoads_23 rfl rfl ?_
    refine zk_bipush dX12_layLoads_24 zkb_8 ?_
    refine zk_icmp_ge 42 dX12_layLoads_26 rfl (fun c3 => ?_) (fun c3 => ?_)
    · have h := zk_it _ h c3
      cases h
      exact zk_weak (zk_leS (zk_leN zk_leE)) he
    · have h := zk_if _ h c3
      refine zk_aload_n (i := 0) dX12_layLoads_29 rfl rfl ?_
      refine zk_getR 0 12 29 dX12_layLoads_30 zf_X12_53 (Nat.le_of_ble_eq_true rfl) rfl rfl ?_
      refine zk_iload_n (i := 1) dX12_layLoads_33 rfl rfl ?_
      refine zk_iconst dX12_layLoads_34 zki_0 ?_
      obtain ⟨b1, h⟩ := zk_gd h
      obtain ⟨m2, em2, h⟩ := zk_lt h
      refine zk_iastore' 15 8 dX12_layLoads_35 (Nat.le_of_ble_eq_true rfl) rfl (zk_inb_in b1) em2 ?_
      refine zk_iinc2 dX12_layLoads_36 rfl zki_1 (Nat.le_of_ble_eq_true rfl) rfl ?_
      refine zk_goto 23 dX12_layLoads_39 rfl ?_
      exact zk_weak (zk_leS (zk_leS zk_leE)) (ih m2 (x1 + (1 : Int32)) _ h he)
set_option maxRecDepth 100000 in
set_option maxHeartbeats 4000000 in
theorem fMd_layLoads_L44_ok {d : Nat} {Z : zkZ} (hd : 0 ≤ d)  : ∀ (n : Nat) (mem : zkM) (x1 : Int32) (z : zkM), fMd_layLoads_L44 n mem x1 = some z → zk_J zSM d zY_X12_layLoads Z 91 [some (.ref 0), none] [] z → zk_J zSM d zY_X12_layLoads Z 44 [some (.ref 0), some (.int x1)] [] mem := by
  intro n
  induction n with
  | zero => intro mem x1 z h; cases h
  | succ n ih =>
    intro mem x1 z h he
    rw [fMd_layLoads_L44] at h
    refine zk_iload_n (i := 1) dX12_layLoads_44 rfl rfl ?_
    refine zk_aload_n (i := 0) dX12_layLoads_45 rfl rfl ?_
    refine zk_getI 0 12 4 dX12_layLoads_46 zf_X12_80 (Nat.le_of_ble_eq_true rfl) rfl rfl ?_
    refine zk_icmp_ge 91 dX12_layLoads_49 rfl (fun c9 => ?_) (fun c9 => ?_)
    · have h := zk_it _ h c9
      cases h
      exact zk_weak (zk_leS (zk_leN zk_leE)) he
    · have h := zk_if _ h c9
      refine zk_aload_n (i := 0) dX12_layLoads_52 rfl rfl ?_
      refine zk_getR 0 12 27 dX12_layLoads_53 zf_X12_47 (Nat.le_of_ble_eq_true rfl) rfl rfl ?_
      refine zk_iload_n (i := 1) dX12_layLoads_56 rfl rfl ?_
      obtain ⟨b1, h⟩ := zk_gd h
      refine zk_iaload 13 5 dX12_layLoads_57 (Nat.le_of_ble_eq_true rfl) rfl (zk_inb_in b1) ?_
      refine zk_bipush dX12_layLoads_58 zkb_m9 ?_
      obtain ⟨q2, hq2, h⟩ := zk_ob h
      have Jq2 : zk_J zSM d zY_X12_layLoads Z 85 [some (.ref 0), some (.int x1)] [] q2 := by
        refine zk_iinc2 dX12_layLoads_85 rfl zki_1 (Nat.le_of_ble_eq_true rfl) rfl ?_
        refine zk_goto 44 dX12_layLoads_88 rfl ?_
        exact zk_weak (zk_leS (zk_leS zk_leE)) (ih q2 (x1 + (1 : Int32)) _ h he)
      have h := hq2
      clear hq2
      refine zk_icmp_eq 85 dX12_layLoads_60 rfl (fun c8 => ?_) (fun c8 => ?_)
      · have h := zk_it _ h c8
        cases h
        exact zk_weak (zk_leS (zk_leS zk_leE)) Jq2
      · have h := zk_if _ h c8
        refine zk_aload_n (i := 0) dX12_layLoads_63 rfl rfl ?_
        refine zk_getR 0 12 28 dX12_layLoads_64 zf_X12_50 (Nat.le_of_ble_eq_true rfl) rfl rfl ?_
        refine zk_aload_n (i := 0) dX12_layLoads_67 rfl rfl ?_
        refine zk_getR 0 12 27 dX12_layLoads_68 zf_X12_47 (Nat.le_of_ble_eq_true rfl) rfl rfl ?_
        refine zk_iload_n (i := 1) dX12_layLoads_71 rfl rfl ?_
        obtain ⟨b3, h⟩ := zk_gd h
        refine zk_iaload 13 5 dX12_layLoads_72 (Nat.le_of_ble_eq_true rfl) rfl (zk_inb_in b3) ?_
        refine zk_dup2 dX12_layLoads_73 rfl rfl ?_
        obtain ⟨b4, h⟩ := zk_gd h
        refine zk_iaload 14 6 dX12_layLoads_74 (Nat.le_of_ble_eq_true rfl) rfl (zk_inb_in b4) ?_
        refine zk_aload_n (i := 0) dX12_layLoads_75 rfl rfl ?_
        refine zk_getR 0 12 5 dX12_layLoads_76 zf_X12_16 (Nat.le_of_ble_eq_true rfl) rfl rfl ?_
        refine zk_iconst dX12_layLoads_79 zki_2 ?_
        refine zk_iload_n (i := 1) dX12_layLoads_80 rfl rfl ?_
        refine zk_imul dX12_layLoads_81 ?_
        obtain ⟨b5, h⟩ := zk_gd h
        refine zk_iaload 3 10 dX12_layLoads_82 (Nat.le_of_ble_eq_true rfl) rfl (zk_inb_in b5) ?_
        refine zk_iadd dX12_layLoads_83 ?_
        obtain ⟨b6, h⟩ := zk_gd h
        obtain ⟨m7, em7, h⟩ := zk_lt h
        refine zk_iastore' 14 6 dX12_layLoads_84 (Nat.le_of_ble_eq_true rfl) rfl (zk_inb_in b6) em7 ?_
        cases h
        exact zk_weak (zk_leS (zk_leS zk_leE)) Jq2
