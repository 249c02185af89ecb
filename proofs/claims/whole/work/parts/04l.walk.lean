set_option maxRecDepth 100000 in
set_option maxHeartbeats 4000000 in
theorem fMd_odds_L146_ok {d : Nat} {Z : zkZ} (hd : 2 ≤ d)  : ∀ (n : Nat) (mem : zkM) (x4 : Int32) (x6 : Int64) (x8 : Int64) (x10 : Int64) (x12 : Int64) (z : Int64), fMd_odds_L146 n mem x10 x12 = some z → zk_J zSM d zY_X12_odds Z 171 [none, none, none, none, some (.int x4), none, some (.long x6), none, some (.long x8), none, some (.long z), none, none, none, none, none] [] mem → zk_J zSM d zY_X12_odds Z 146 [none, none, none, none, some (.int x4), none, some (.long x6), none, some (.long x8), none, some (.long x10), none, some (.long x12), none, none, none] [] mem := by
  intro n
  induction n with
  | zero => intro mem x4 x6 x8 x10 x12 z h; cases h
  | succ n ih =>
    intro mem x4 x6 x8 x10 x12 z h he
    rw [fMd_odds_L146] at h
    refine zk_lload dX12_odds_146 rfl ?_
    refine zk_lconst (v := 0) dX12_odds_148 rfl ?_
    refine zk_lcmp dX12_odds_149 ?_
    refine zk_if_le 171 dX12_odds_150 rfl (fun c3 => ?_) (fun c3 => ?_)
    · have h := zk_it _ h c3
      cases h
      exact zk_weak (zk_leN (zk_leN (zk_leN (zk_leN (zk_leS (zk_leN (zk_leS (zk_leN (zk_leS (zk_leN (zk_leS (zk_leN (zk_leN (zk_leN (zk_leN (zk_leN zk_leE)))))))))))))))) he
    · have h := zk_if _ h c3
      refine zk_lload dX12_odds_153 rfl ?_
      refine zk_lload dX12_odds_155 rfl ?_
      obtain ⟨b1, h⟩ := zk_dz h
      refine zk_lrem dX12_odds_157 b1 ?_
      obtain ⟨v2, ev2, h⟩ := zk_lt h
      refine zk_lstore' dX12_odds_158 ev2 (Nat.le_of_ble_eq_true rfl) rfl ?_
      refine zk_lload dX12_odds_160 rfl ?_
      refine zk_lstore dX12_odds_162 (Nat.le_of_ble_eq_true rfl) rfl ?_
      refine zk_lload dX12_odds_164 rfl ?_
      refine zk_lstore dX12_odds_166 (Nat.le_of_ble_eq_true rfl) rfl ?_
      refine zk_goto 146 dX12_odds_168 rfl ?_
      exact zk_weak (zk_leN (zk_leN (zk_leN (zk_leN (zk_leS (zk_leN (zk_leS (zk_leN (zk_leS (zk_leN (zk_leS (zk_leN (zk_leS (zk_leN (zk_leN (zk_leN zk_leE)))))))))))))))) (ih mem x4 x6 x8 x12 v2 _ h he)
set_option maxRecDepth 100000 in
set_option maxHeartbeats 4000000 in
theorem fMd_odds_ok {d : Nat} (hd : 2 ≤ d) (mem : zkM) (a1 : Int32) (a2 : Int32) (a3 : Int32) (a4 : Int32) (z : Int64 × zkM) (h : fMd_odds mem a1 a2 a3 a4 = some z) : zk_X zSM d zY_X12_odds [.ref 0, .int a1, .int a2, .int a3, .int a4] mem (some (.long z.1), z.2) := by
  unfold fMd_odds at h
  refine zk_meet (n := 11) (lv := [some (.ref 0), some (.int a1), some (.int a2), some (.int a3), some (.int a4), none, none, none, none, none, none, none, none, none, none, none]) zpn_X12 rfl (Nat.le_of_ble_eq_true rfl) ?_
  refine zk_aload_n (i := 0) dX12_odds_0 rfl rfl ?_
  refine zk_iload_n (i := 1) dX12_odds_1 rfl rfl ?_
  refine zk_callVi zY_X12_isPlank 0 12 [_] dX12_odds_2 zl_X12_isPlank zc_X12_185 zk_ok12 (Nat.le_of_ble_eq_true rfl) rfl (fMd_isPlank_ok (d := 1) (Nat.le_refl _) mem _ _ rfl) (Nat.lt_of_lt_of_le (by decide) hd) (Nat.le_of_ble_eq_true rfl) ?_
  refine zk_if_eq 37 dX12_odds_5 rfl (fun c19 => ?_) (fun c19 => ?_)
  · have h := zk_it _ h c19
    refine zk_ldc2 dX12_odds_37 zd_X12_243 ?_
    exact zk_lreturn dX12_odds_40 rfl (zk_rLw (Option.some.inj h))
  · have h := zk_if _ h c19
    refine zk_iload_n (i := 2) dX12_odds_8 rfl rfl ?_
    refine zk_iconst dX12_odds_9 zki_0 ?_
    refine zk_iconst dX12_odds_10 zki_1 ?_
    refine zk_callSi zY_X12_in [_, _, _] dX12_odds_11 zl_X12_in zc_X12_73 (fMd_in_ok (d := 0) (Nat.le_refl _) mem _ _ _ _ rfl) (Nat.lt_of_lt_of_le (by decide) hd) (Nat.le_of_ble_eq_true rfl) ?_
    refine zk_if_eq 37 dX12_odds_14 rfl (fun c18 => ?_) (fun c18 => ?_)
    · have h := zk_it _ h c18
      refine zk_ldc2 dX12_odds_37 zd_X12_243 ?_
      exact zk_lreturn dX12_odds_40 rfl (zk_rLw (Option.some.inj h))
    · have h := zk_if _ h c18
      refine zk_iload_n (i := 3) dX12_odds_17 rfl rfl ?_
      refine zk_iconst dX12_odds_18 zki_0 ?_
      refine zk_bipush dX12_odds_19 zkb_6 ?_
      refine zk_callSi zY_X12_in [_, _, _] dX12_odds_21 zl_X12_in zc_X12_73 (fMd_in_ok (d := 0) (Nat.le_refl _) mem _ _ _ _ rfl) (Nat.lt_of_lt_of_le (by decide) hd) (Nat.le_of_ble_eq_true rfl) ?_
      refine zk_if_eq 37 dX12_odds_24 rfl (fun c17 => ?_) (fun c17 => ?_)
      · have h := zk_it _ h c17
        refine zk_ldc2 dX12_odds_37 zd_X12_243 ?_
        exact zk_lreturn dX12_odds_40 rfl (zk_rLw (Option.some.inj h))
      · have h := zk_if _ h c17
        refine zk_iload dX12_odds_27 rfl ?_
        refine zk_iconst dX12_odds_29 zki_0 ?_
        refine zk_iconst dX12_odds_30 zki_1 ?_
        refine zk_callSi zY_X12_in [_, _, _] dX12_odds_31 zl_X12_in zc_X12_73 (fMd_in_ok (d := 0) (Nat.le_refl _) mem _ _ _ _ rfl) (Nat.lt_of_lt_of_le (by decide) hd) (Nat.le_of_ble_eq_true rfl) ?_
        refine zk_if_ne 41 dX12_odds_34 rfl (fun c16 => ?_) (fun c16 => ?_)
        · have h := zk_if _ h c16
          refine zk_iload_n (i := 1) dX12_odds_41 rfl rfl ?_
          refine zk_iload_n (i := 2) dX12_odds_42 rfl rfl ?_
          refine zk_callSi zY_X12_endAt [_, _] dX12_odds_43 zl_X12_endAt zc_X12_188 (fMd_endAt_ok (d := 0) (Nat.le_refl _) mem _ _ _ rfl) (Nat.lt_of_lt_of_le (by decide) hd) (Nat.le_of_ble_eq_true rfl) ?_
          obtain ⟨v1, ev1, h⟩ := zk_lt h
          refine zk_istore' dX12_odds_46 ev1 (Nat.le_of_ble_eq_true rfl) rfl ?_
          refine zk_aload_n (i := 0) dX12_odds_48 rfl rfl ?_
          refine zk_getR 0 12 6 dX12_odds_49 zf_X12_19 (Nat.le_of_ble_eq_true rfl) rfl rfl ?_
          refine zk_iload dX12_odds_52 rfl ?_
          refine zk_iconst dX12_odds_54 zki_2 ?_
          refine zk_iadd dX12_odds_55 ?_
          obtain ⟨b2, h⟩ := zk_gd h
          refine zk_iaload 4 42 dX12_odds_56 (Nat.le_of_ble_eq_true rfl) rfl (zk_inb_in b2) ?_
          refine zk_iconst dX12_odds_57 zki_1 ?_
          refine zk_icmp_ne 65 dX12_odds_58 rfl (fun c15 => ?_) (fun c15 => ?_)
          · have h := zk_if _ h c15
            refine zk_lconst (v := 1) dX12_odds_65 rfl ?_
            refine zk_lstore dX12_odds_66 (Nat.le_of_ble_eq_true rfl) rfl ?_
            refine zk_iconst dX12_odds_68 zki_0 ?_
            refine zk_istore dX12_odds_69 (Nat.le_of_ble_eq_true rfl) rfl ?_
            obtain ⟨q3, hq3, h⟩ := zk_ob h
            refine zk_weak (zk_leS (zk_leS (zk_leS (zk_leS (zk_leS (zk_leS (zk_leS (zk_leN (zk_leS (zk_leN (zk_leN (zk_leN (zk_leN (zk_leN (zk_leN (zk_leN zk_leE)))))))))))))))) (fMd_odds_L71_ok hd 500 mem a1 a2 a3 a4 v1 (1 : Int64) (0 : Int32) _ hq3 ?_)
            refine zk_aload_n (i := 0) dX12_odds_91 rfl rfl ?_
            refine zk_getR 0 12 6 dX12_odds_92 zf_X12_19 (Nat.le_of_ble_eq_true rfl) rfl rfl ?_
            refine zk_iload dX12_odds_95 rfl ?_
            obtain ⟨b4, h⟩ := zk_gd h
            refine zk_iaload 4 42 dX12_odds_97 (Nat.le_of_ble_eq_true rfl) rfl (zk_inb_in b4) ?_
            obtain ⟨q5, hq5, h⟩ := zk_ob h
            have Jq5 : zk_J zSM d zY_X12_odds (zk_R zSM (some (.long z.1), z.2)) 136 [none, none, none, none, some (.int a4), none, some (.long q3), none, none, none, none, none, none, none, none, none] [.long q5.1] q5.2 := by
              refine zk_lstore dX12_odds_136 (Nat.le_of_ble_eq_true rfl) rfl ?_
              refine zk_lload dX12_odds_138 rfl ?_
              refine zk_lstore dX12_odds_140 (Nat.le_of_ble_eq_true rfl) rfl ?_
              refine zk_lload dX12_odds_142 rfl ?_
              refine zk_lstore dX12_odds_144 (Nat.le_of_ble_eq_true rfl) rfl ?_
              obtain ⟨q11, hq11, h⟩ := zk_ob h
              refine zk_weak (zk_leN (zk_leN (zk_leN (zk_leN (zk_leS (zk_leN (zk_leS (zk_leN (zk_leS (zk_leN (zk_leS (zk_leN (zk_leS (zk_leN (zk_leN (zk_leN zk_leE)))))))))))))))) (fMd_odds_L146_ok hd 500 q5.2 a4 q3 q5.1 q5.1 q3 _ hq11 ?_)
              refine zk_iload dX12_odds_171 rfl ?_
              refine zk_if_ne 181 dX12_odds_173 rfl (fun c14 => ?_) (fun c14 => ?_)
              · have h := zk_if _ h c14
                refine zk_lload dX12_odds_181 rfl ?_
                refine zk_lload dX12_odds_183 rfl ?_
                obtain ⟨b12, h⟩ := zk_dz h
                refine zk_ldiv dX12_odds_185 b12 ?_
                exact zk_lreturn dX12_odds_186 rfl (zk_rLw (Option.some.inj h))
              · have h := zk_it _ h c14
                refine zk_lload dX12_odds_176 rfl ?_
                refine zk_goto 183 dX12_odds_178 rfl ?_
                refine zk_lload dX12_odds_183 rfl ?_
                obtain ⟨b13, h⟩ := zk_dz h
                refine zk_ldiv dX12_odds_185 b13 ?_
                exact zk_lreturn dX12_odds_186 rfl (zk_rLw (Option.some.inj h))
            have h := hq5
            clear hq5
            refine zk_if_ne 106 dX12_odds_98 rfl (fun c10 => ?_) (fun c10 => ?_)
            · have h := zk_if _ h c10
              refine zk_aload_n (i := 0) dX12_odds_106 rfl rfl ?_
              refine zk_aload_n (i := 0) dX12_odds_107 rfl rfl ?_
              refine zk_getR 0 12 6 dX12_odds_108 zf_X12_19 (Nat.le_of_ble_eq_true rfl) rfl rfl ?_
              refine zk_iload dX12_odds_111 rfl ?_
              obtain ⟨b6, h⟩ := zk_gd h
              refine zk_iaload 4 42 dX12_odds_113 (Nat.le_of_ble_eq_true rfl) rfl (zk_inb_in b6) ?_
              refine zk_aload_n (i := 0) dX12_odds_114 rfl rfl ?_
              refine zk_getR 0 12 6 dX12_odds_115 zf_X12_19 (Nat.le_of_ble_eq_true rfl) rfl rfl ?_
              refine zk_iload dX12_odds_118 rfl ?_
              refine zk_iconst dX12_odds_120 zki_1 ?_
              refine zk_iadd dX12_odds_121 ?_
              obtain ⟨b7, h⟩ := zk_gd h
              refine zk_iaload 4 42 dX12_odds_122 (Nat.le_of_ble_eq_true rfl) rfl (zk_inb_in b7) ?_
              refine zk_aload_n (i := 0) dX12_odds_123 rfl rfl ?_
              refine zk_iconst dX12_odds_124 zki_2 ?_
              refine zk_iload_n (i := 1) dX12_odds_125 rfl rfl ?_
              refine zk_imul dX12_odds_126 ?_
              refine zk_iload_n (i := 2) dX12_odds_127 rfl rfl ?_
              refine zk_iadd dX12_odds_128 ?_
              obtain ⟨q8, hq8, h⟩ := zk_ob h
              refine zk_callVi zY_X12_differ 0 12 [_] dX12_odds_129 zl_X12_differ zc_X12_171 zk_ok12 (Nat.le_of_ble_eq_true rfl) rfl (fMd_differ_ok (d := 0) (Nat.le_refl _) mem _ _ hq8) (Nat.lt_of_lt_of_le (by decide) hd) (Nat.le_of_ble_eq_true rfl) ?_
              refine zk_iload_n (i := 3) dX12_odds_132 rfl rfl ?_
              obtain ⟨q9, hq9, h⟩ := zk_ob h
              refine zk_callVl zY_X12_stays 0 12 [_, _, _, _] dX12_odds_133 zl_X12_stays zc_X12_249 zk_ok12 (Nat.le_of_ble_eq_true rfl) rfl (fMd_stays_ok (d := 1) (Nat.le_refl _) mem _ _ _ _ _ hq9) (Nat.lt_of_lt_of_le (by decide) hd) (Nat.le_of_ble_eq_true rfl) ?_
              cases h
              exact zk_weak (zk_leN (zk_leN (zk_leN (zk_leN (zk_leS (zk_leN (zk_leS (zk_leN (zk_leN (zk_leN (zk_leN (zk_leN (zk_leN (zk_leN (zk_leN (zk_leN zk_leE)))))))))))))))) Jq5
            · have h := zk_it _ h c10
              refine zk_lload dX12_odds_101 rfl ?_
              refine zk_goto 136 dX12_odds_103 rfl ?_
              cases h
              exact zk_weak (zk_leN (zk_leN (zk_leN (zk_leN (zk_leS (zk_leN (zk_leS (zk_leN (zk_leN (zk_leN (zk_leN (zk_leN (zk_leN (zk_leN (zk_leN (zk_leN zk_leE)))))))))))))))) Jq5
          · have h := zk_it _ h c15
            refine zk_ldc2 dX12_odds_61 zd_X12_245 ?_
            exact zk_lreturn dX12_odds_64 rfl (zk_rLw (Option.some.inj h))
        · have h := zk_it _ h c16
          refine zk_ldc2 dX12_odds_37 zd_X12_243 ?_
          exact zk_lreturn dX12_odds_40 rfl (zk_rLw (Option.some.inj h))
set_option maxRecDepth 100000 in
set_option maxHeartbeats 4000000 in
theorem fMd_has_ok {d : Nat} (hd : 0 ≤ d) (mem : zkM) (a0 : Int32) (a1 : Int32) (z : Bool) (h : fMd_has a0 a1 = z) : zk_X zSM d zY_X12_has [.int a0, .int a1] mem (some (.int (zk_b z)), mem) := by
  unfold fMd_has at h
  refine zk_meet (n := 0) (lv := [some (.int a0), some (.int a1)]) zpn_X12 rfl (Nat.le_of_ble_eq_true rfl) ?_
  refine zk_iload_n (i := 0) dX12_has_0 rfl rfl ?_
  refine zk_iload_n (i := 1) dX12_has_1 rfl rfl ?_
  refine zk_ishr dX12_has_2 ?_
  refine zk_iconst dX12_has_3 zki_1 ?_
  refine zk_iand dX12_has_4 ?_
  refine zk_iconst dX12_has_5 zki_1 ?_
  refine zk_icmp_ne 13 dX12_has_6 rfl (fun c1 => ?_) (fun c1 => ?_)
  · have h := zk_if _ h c1
    refine zk_iconst dX12_has_13 zki_0 ?_
    exact zk_zreturn dX12_has_14 rfl rfl (zk_rZ h)
  · have h := zk_it _ h c1
    refine zk_iconst dX12_has_9 zki_1 ?_
    refine zk_goto 14 dX12_has_10 rfl ?_
    exact zk_zreturn dX12_has_14 rfl rfl (zk_rZ h)
set_option maxRecDepth 100000 in
set_option maxHeartbeats 4000000 in
theorem fMd_mayLay_L5_ok {d : Nat} {Z : zkZ} (hd : 1 ≤ d)  : ∀ (n : Nat) (mem : zkM) (x1 : Int32) (x2 : Int32) (x3 : Int32) (x4 : Int32) (z : Int32), fMd_mayLay_L5 n mem x1 x3 x4 = some z → zk_J zSM d zY_X12_mayLay Z 61 [some (.ref 0), some (.int x1), some (.int x2), some (.int z), none] [] mem → zk_J zSM d zY_X12_mayLay Z 5 [some (.ref 0), some (.int x1), some (.int x2), some (.int x3), some (.int x4)] [] mem := by
  intro n
  induction n with
  | zero => intro mem x1 x2 x3 x4 z h; cases h
  | succ n ih =>
    intro mem x1 x2 x3 x4 z h he
    rw [fMd_mayLay_L5] at h
    refine zk_iload dX12_mayLay_5 rfl ?_
    refine zk_aload_n (i := 0) dX12_mayLay_7 rfl rfl ?_
    refine zk_getI 0 12 2 dX12_mayLay_8 zf_X12_77 (Nat.le_of_ble_eq_true rfl) rfl rfl ?_
    refine zk_icmp_ge 61 dX12_mayLay_11 rfl (fun c6 => ?_) (fun c6 => ?_)
    · have h := zk_it _ h c6
      cases h
      exact zk_weak (zk_leS (zk_leS (zk_leS (zk_leS (zk_leN zk_leE))))) he
    · have h := zk_if _ h c6
      refine zk_iload_n (i := 3) dX12_mayLay_14 rfl rfl ?_
      refine zk_iload_n (i := 1) dX12_mayLay_15 rfl rfl ?_
      refine zk_iload dX12_mayLay_16 rfl ?_
      refine zk_callSi zY_X12_has [_, _] dX12_mayLay_18 zl_X12_has zc_X12_253 (fMd_has_ok (d := 0) (Nat.le_refl _) mem _ _ _ rfl) (Nat.lt_of_lt_of_le (by decide) hd) (Nat.le_of_ble_eq_true rfl) ?_
      obtain ⟨q1, hq1, h⟩ := zk_ob h
      have Jq1 : zk_J zSM d zY_X12_mayLay Z 53 [some (.ref 0), some (.int x1), some (.int x2), none, some (.int x4)] [.int q1, .int x3] mem := by
        refine zk_ior dX12_mayLay_53 ?_
        obtain ⟨v5, ev5, h⟩ := zk_lt h
        refine zk_istore_n' (i := 3) dX12_mayLay_54 rfl ev5 (Nat.le_of_ble_eq_true rfl) rfl ?_
        refine zk_iinc2 dX12_mayLay_55 rfl zki_1 (Nat.le_of_ble_eq_true rfl) rfl ?_
        refine zk_goto 5 dX12_mayLay_58 rfl ?_
        exact zk_weak (zk_leS (zk_leS (zk_leS (zk_leS (zk_leS zk_leE))))) (ih mem x1 x2 v5 (x4 + (1 : Int32)) _ h he)
      have h := hq1
      clear hq1
      refine zk_if_eq 52 dX12_mayLay_21 rfl (fun c4 => ?_) (fun c4 => ?_)
      · have h := zk_it _ h c4
        refine zk_iconst dX12_mayLay_52 zki_0 ?_
        cases h
        exact zk_weak (zk_leS (zk_leS (zk_leS (zk_leN (zk_leS zk_leE))))) Jq1
      · have h := zk_if _ h c4
        refine zk_iconst dX12_mayLay_24 zki_1 ?_
        refine zk_aload_n (i := 0) dX12_mayLay_25 rfl rfl ?_
        refine zk_getR 0 12 3 dX12_mayLay_26 zf_X12_13 (Nat.le_of_ble_eq_true rfl) rfl rfl ?_
        refine zk_iconst dX12_mayLay_29 zki_3 ?_
        refine zk_iload dX12_mayLay_30 rfl ?_
        refine zk_imul dX12_mayLay_32 ?_
        obtain ⟨b2, h⟩ := zk_gd h
        refine zk_iaload 2 18 dX12_mayLay_33 (Nat.le_of_ble_eq_true rfl) rfl (zk_inb_in b2) ?_
        refine zk_ishl dX12_mayLay_34 ?_
        refine zk_iconst dX12_mayLay_35 zki_1 ?_
        refine zk_aload_n (i := 0) dX12_mayLay_36 rfl rfl ?_
        refine zk_getR 0 12 3 dX12_mayLay_37 zf_X12_13 (Nat.le_of_ble_eq_true rfl) rfl rfl ?_
        refine zk_iconst dX12_mayLay_40 zki_3 ?_
        refine zk_iload dX12_mayLay_41 rfl ?_
        refine zk_imul dX12_mayLay_43 ?_
        refine zk_iconst dX12_mayLay_44 zki_1 ?_
        refine zk_iadd dX12_mayLay_45 ?_
        obtain ⟨b3, h⟩ := zk_gd h
        refine zk_iaload 2 18 dX12_mayLay_46 (Nat.le_of_ble_eq_true rfl) rfl (zk_inb_in b3) ?_
        refine zk_ishl dX12_mayLay_47 ?_
        refine zk_ior dX12_mayLay_48 ?_
        refine zk_goto 53 dX12_mayLay_49 rfl ?_
        cases h
        exact zk_weak (zk_leS (zk_leS (zk_leS (zk_leN (zk_leS zk_leE))))) Jq1
set_option maxRecDepth 100000 in
set_option maxHeartbeats 4000000 in
theorem fMd_mayLay_ok {d : Nat} (hd : 1 ≤ d) (mem : zkM) (a1 : Int32) (a2 : Int32) (z : Bool) (h : fMd_mayLay mem a1 a2 = some z) : zk_X zSM d zY_X12_mayLay [.ref 0, .int a1, .int a2] mem (some (.int (zk_b z)), mem) := by
  unfold fMd_mayLay at h
  refine zk_meet (n := 2) (lv := [some (.ref 0), some (.int a1), some (.int a2), none, none]) zpn_X12 rfl (Nat.le_of_ble_eq_true rfl) ?_
  refine zk_iconst dX12_mayLay_0 zki_1 ?_
  refine zk_istore_n (i := 3) dX12_mayLay_1 rfl (Nat.le_of_ble_eq_true rfl) rfl ?_
  refine zk_iconst dX12_mayLay_2 zki_0 ?_
  refine zk_istore dX12_mayLay_3 (Nat.le_of_ble_eq_true rfl) rfl ?_
  obtain ⟨q1, hq1, h⟩ := zk_ob h
  refine zk_weak (zk_leS (zk_leS (zk_leS (zk_leS (zk_leS zk_leE))))) (fMd_mayLay_L5_ok hd 500 mem a1 a2 (1 : Int32) (0 : Int32) _ hq1 ?_)
  refine zk_iload_n (i := 1) dX12_mayLay_61 rfl rfl ?_
  refine zk_iload_n (i := 2) dX12_mayLay_62 rfl rfl ?_
  refine zk_callSi zY_X12_has [_, _] dX12_mayLay_63 zl_X12_has zc_X12_253 (fMd_has_ok (d := 0) (Nat.le_refl _) mem _ _ _ rfl) (Nat.lt_of_lt_of_le (by decide) hd) (Nat.le_of_ble_eq_true rfl) ?_
  refine zk_if_ne 105 dX12_mayLay_66 rfl (fun c6 => ?_) (fun c6 => ?_)
  · have h := zk_if _ h c6
    refine zk_iconst dX12_mayLay_105 zki_0 ?_
    exact zk_zreturn dX12_mayLay_106 rfl rfl (zk_rZ (Option.some.inj h))
  · have h := zk_it _ h c6
    refine zk_iload_n (i := 3) dX12_mayLay_69 rfl rfl ?_
    refine zk_aload_n (i := 0) dX12_mayLay_70 rfl rfl ?_
    refine zk_getR 0 12 3 dX12_mayLay_71 zf_X12_13 (Nat.le_of_ble_eq_true rfl) rfl rfl ?_
    refine zk_iconst dX12_mayLay_74 zki_3 ?_
    refine zk_iload_n (i := 2) dX12_mayLay_75 rfl rfl ?_
    refine zk_imul dX12_mayLay_76 ?_
    obtain ⟨b2, h⟩ := zk_gd h
    refine zk_iaload 2 18 dX12_mayLay_77 (Nat.le_of_ble_eq_true rfl) rfl (zk_inb_in b2) ?_
    refine zk_callSi zY_X12_has [_, _] dX12_mayLay_78 zl_X12_has zc_X12_253 (fMd_has_ok (d := 0) (Nat.le_refl _) mem _ _ _ rfl) (Nat.lt_of_lt_of_le (by decide) hd) (Nat.le_of_ble_eq_true rfl) ?_
    refine zk_if_ne 101 dX12_mayLay_81 rfl (fun c5 => ?_) (fun c5 => ?_)
    · have h := zk_if _ h c5
      refine zk_iconst dX12_mayLay_101 zki_1 ?_
      refine zk_goto 106 dX12_mayLay_102 rfl ?_
      exact zk_zreturn dX12_mayLay_106 rfl rfl (zk_rZ (Option.some.inj h))
    · have h := zk_it _ h c5
      refine zk_iload_n (i := 3) dX12_mayLay_84 rfl rfl ?_
      refine zk_aload_n (i := 0) dX12_mayLay_85 rfl rfl ?_
      refine zk_getR 0 12 3 dX12_mayLay_86 zf_X12_13 (Nat.le_of_ble_eq_true rfl) rfl rfl ?_
      refine zk_iconst dX12_mayLay_89 zki_3 ?_
      refine zk_iload_n (i := 2) dX12_mayLay_90 rfl rfl ?_
      refine zk_imul dX12_mayLay_91 ?_
      refine zk_iconst dX12_mayLay_92 zki_1 ?_
      refine zk_iadd dX12_mayLay_93 ?_
      obtain ⟨b3, h⟩ := zk_gd h
      refine zk_iaload 2 18 dX12_mayLay_94 (Nat.le_of_ble_eq_true rfl) rfl (zk_inb_in b3) ?_
      refine zk_callSi zY_X12_has [_, _] dX12_mayLay_95 zl_X12_has zc_X12_253 (fMd_has_ok (d := 0) (Nat.le_refl _) mem _ _ _ rfl) (Nat.lt_of_lt_of_le (by decide) hd) (Nat.le_of_ble_eq_true rfl) ?_
      refine zk_if_eq 105 dX12_mayLay_98 rfl (fun c4 => ?_) (fun c4 => ?_)
      · have h := zk_it _ h c4
        refine zk_iconst dX12_mayLay_105 zki_0 ?_
        exact zk_zreturn dX12_mayLay_106 rfl rfl (zk_rZ (Option.some.inj h))
      · have h := zk_if _ h c4
        refine zk_iconst dX12_mayLay_101 zki_1 ?_
        refine zk_goto 106 dX12_mayLay_102 rfl ?_
        exact zk_zreturn dX12_mayLay_106 rfl rfl (zk_rZ (Option.some.inj h))
set_option maxRecDepth 100000 in
set_option maxHeartbeats 4000000 in
theorem fMd_findOrders_L29_ok {d : Nat} {Z : zkZ} (hd : 2 ≤ d)  : ∀ (n : Nat) (mem : zkM) (x2 : Int32) (x3 : Int32) (x4 : Int32) (z : Int32), fMd_findOrders_L29 n mem x2 x3 x4 = some z → zk_J zSM d zY_X12_findOrders Z 72 [some (.ref 0), none, some (.int x2), some (.int z), none] [] mem → zk_J zSM d zY_X12_findOrders Z 29 [some (.ref 0), none, some (.int x2), some (.int x3), some (.int x4)] [] mem := by
  intro n
  induction n with
  | zero => intro mem x2 x3 x4 z h; cases h
  | succ n ih =>
    intro mem x2 x3 x4 z h he
    rw [fMd_findOrders_L29] at h
    refine zk_iload dX12_findOrders_29 rfl ?_
    refine zk_aload_n (i := 0) dX12_findOrders_31 rfl rfl ?_
    refine zk_getI 0 12 2 dX12_findOrders_32 zf_X12_77 (Nat.le_of_ble_eq_true rfl) rfl rfl ?_
    refine zk_icmp_ge 72 dX12_findOrders_35 rfl (fun c6 => ?_) (fun c6 => ?_)
    · have h := zk_it _ h c6
      cases h
      exact zk_weak (zk_leS (zk_leN (zk_leS (zk_leS (zk_leN zk_leE))))) he
    · have h := zk_if _ h c6
      refine zk_iload_n (i := 3) dX12_findOrders_38 rfl rfl ?_
      refine zk_aload_n (i := 0) dX12_findOrders_39 rfl rfl ?_
      refine zk_iload_n (i := 2) dX12_findOrders_40 rfl rfl ?_
      refine zk_iload dX12_findOrders_41 rfl ?_
      obtain ⟨q1, hq1, h⟩ := zk_ob h
      refine zk_callVi zY_X12_mayLay 0 12 [_, _] dX12_findOrders_43 zl_X12_mayLay zc_X12_256 zk_ok12 (Nat.le_of_ble_eq_true rfl) rfl (fMd_mayLay_ok (d := 1) (Nat.le_refl _) mem _ _ _ hq1) (Nat.lt_of_lt_of_le (by decide) hd) (Nat.le_of_ble_eq_true rfl) ?_
      obtain ⟨q2, hq2, h⟩ := zk_ob h
      have Jq2 : zk_J zSM d zY_X12_findOrders Z 64 [some (.ref 0), none, some (.int x2), none, some (.int x4)] [.int q2, .int x3] mem := by
        refine zk_iadd dX12_findOrders_64 ?_
        obtain ⟨v5, ev5, h⟩ := zk_lt h
        refine zk_istore_n' (i := 3) dX12_findOrders_65 rfl ev5 (Nat.le_of_ble_eq_true rfl) rfl ?_
        refine zk_iinc2 dX12_findOrders_66 rfl zki_1 (Nat.le_of_ble_eq_true rfl) rfl ?_
        refine zk_goto 29 dX12_findOrders_69 rfl ?_
        exact zk_weak (zk_leS (zk_leN (zk_leS (zk_leS (zk_leS zk_leE))))) (ih mem x2 v5 (x4 + (1 : Int32)) _ h he)
      have h := hq2
      clear hq2
      refine zk_if_eq 63 dX12_findOrders_46 rfl (fun c4 => ?_) (fun c4 => ?_)
      · have h := zk_it _ h c4
        refine zk_iconst dX12_findOrders_63 zki_0 ?_
        cases h
        exact zk_weak (zk_leS (zk_leN (zk_leS (zk_leN (zk_leS zk_leE))))) Jq2
      · have h := zk_if _ h c4
        refine zk_aload_n (i := 0) dX12_findOrders_49 rfl rfl ?_
        refine zk_getR 0 12 33 dX12_findOrders_50 zf_X12_66 (Nat.le_of_ble_eq_true rfl) rfl rfl ?_
        refine zk_iload_n (i := 2) dX12_findOrders_53 rfl rfl ?_
        refine zk_iconst dX12_findOrders_54 zki_1 ?_
        refine zk_iload dX12_findOrders_55 rfl ?_
        refine zk_ishl dX12_findOrders_57 ?_
        refine zk_ior dX12_findOrders_58 ?_
        obtain ⟨b3, h⟩ := zk_gd h
        refine zk_iaload 19 64 dX12_findOrders_59 (Nat.le_of_ble_eq_true rfl) rfl (zk_inb_in b3) ?_
        refine zk_goto 64 dX12_findOrders_60 rfl ?_
        cases h
        exact zk_weak (zk_leS (zk_leN (zk_leS (zk_leN (zk_leS zk_leE))))) Jq2
set_option maxRecDepth 100000 in
set_option maxHeartbeats 4000000 in
theorem fMd_findOrders_L20_ok {d : Nat} {Z : zkZ} (hd : 2 ≤ d)  : ∀ (n : Nat) (mem : zkM) (x2 : Int32) (z : zkM), fMd_findOrders_L20 n mem x2 = some z → zk_J zSM d zY_X12_findOrders Z 85 [none, none, none, none, none] [] z → zk_J zSM d zY_X12_findOrders Z 20 [some (.ref 0), none, some (.int x2), none, none] [] mem := by
  intro n
  induction n with
  | zero => intro mem x2 z h; cases h
  | succ n ih =>
    intro mem x2 z h he
    rw [fMd_findOrders_L20] at h
    refine zk_iload_n (i := 2) dX12_findOrders_20 rfl rfl ?_
    refine zk_if_lt 85 dX12_findOrders_21 rfl (fun c4 => ?_) (fun c4 => ?_)
    · have h := zk_it _ h c4
      cases h
      exact zk_weak (zk_leN (zk_leN (zk_leN (zk_leN (zk_leN zk_leE))))) he
    · have h := zk_if _ h c4
      refine zk_iconst dX12_findOrders_24 zki_0 ?_
      refine zk_istore_n (i := 3) dX12_findOrders_25 rfl (Nat.le_of_ble_eq_true rfl) rfl ?_
      refine zk_iconst dX12_findOrders_26 zki_0 ?_
      refine zk_istore dX12_findOrders_27 (Nat.le_of_ble_eq_true rfl) rfl ?_
      obtain ⟨q1, hq1, h⟩ := zk_ob h
      refine zk_weak (zk_leS (zk_leN (zk_leS (zk_leS (zk_leS zk_leE))))) (fMd_findOrders_L29_ok hd 500 mem x2 (0 : Int32) (0 : Int32) _ hq1 ?_)
      refine zk_aload_n (i := 0) dX12_findOrders_72 rfl rfl ?_
      refine zk_getR 0 12 33 dX12_findOrders_73 zf_X12_66 (Nat.le_of_ble_eq_true rfl) rfl rfl ?_
      refine zk_iload_n (i := 2) dX12_findOrders_76 rfl rfl ?_
      refine zk_iload_n (i := 3) dX12_findOrders_77 rfl rfl ?_
      obtain ⟨b2, h⟩ := zk_gd h
      obtain ⟨m3, em3, h⟩ := zk_lt h
      refine zk_iastore' 19 64 dX12_findOrders_78 (Nat.le_of_ble_eq_true rfl) rfl (zk_inb_in b2) em3 ?_
      refine zk_iinc2 dX12_findOrders_79 rfl zki_m1 (Nat.le_of_ble_eq_true rfl) rfl ?_
      refine zk_goto 20 dX12_findOrders_82 rfl ?_
      exact zk_weak (zk_leS (zk_leN (zk_leS (zk_leN (zk_leN zk_leE))))) (ih m3 (x2 + (-1 : Int32)) _ h he)
set_option maxRecDepth 100000 in
set_option maxHeartbeats 4000000 in
theorem fMd_findOrders_ok {d : Nat} (hd : 2 ≤ d) (mem : zkM) (z : zkM) (h : fMd_findOrders mem = some z) : zk_X zSM d zY_X12_findOrders [.ref 0] mem (none, z) := by
  unfold fMd_findOrders at h
  refine zk_meet (n := 4) (lv := [some (.ref 0), none, none, none, none]) zpn_X12 rfl (Nat.le_of_ble_eq_true rfl) ?_
  refine zk_iconst dX12_findOrders_0 zki_1 ?_
  refine zk_aload_n (i := 0) dX12_findOrders_1 rfl rfl ?_
  refine zk_getI 0 12 2 dX12_findOrders_2 zf_X12_77 (Nat.le_of_ble_eq_true rfl) rfl rfl ?_
  refine zk_ishl dX12_findOrders_5 ?_
  refine zk_iconst dX12_findOrders_6 zki_1 ?_
  refine zk_isub dX12_findOrders_7 ?_
  obtain ⟨v1, ev1, h⟩ := zk_lt h
  refine zk_istore_n' (i := 1) dX12_findOrders_8 rfl ev1 (Nat.le_of_ble_eq_true rfl) rfl ?_
  refine zk_aload_n (i := 0) dX12_findOrders_9 rfl rfl ?_
  refine zk_getR 0 12 33 dX12_findOrders_10 zf_X12_66 (Nat.le_of_ble_eq_true rfl) rfl rfl ?_
  refine zk_iload_n (i := 1) dX12_findOrders_13 rfl rfl ?_
  refine zk_iconst dX12_findOrders_14 zki_1 ?_
  obtain ⟨b2, h⟩ := zk_gd h
  obtain ⟨m3, em3, h⟩ := zk_lt h
  refine zk_iastore' 19 64 dX12_findOrders_15 (Nat.le_of_ble_eq_true rfl) rfl (zk_inb_in b2) em3 ?_
  refine zk_iload_n (i := 1) dX12_findOrders_16 rfl rfl ?_
  refine zk_iconst dX12_findOrders_17 zki_1 ?_
  refine zk_isub dX12_findOrders_18 ?_
  obtain ⟨v4, ev4, h⟩ := zk_lt h
  refine zk_istore_n' (i := 2) dX12_findOrders_19 rfl ev4 (Nat.le_of_ble_eq_true rfl) rfl ?_
  obtain ⟨q5, hq5, h⟩ := zk_ob h
  refine zk_weak (zk_leS (zk_leN (zk_leS (zk_leN (zk_leN zk_leE))))) (fMd_findOrders_L20_ok hd 500 m3 v4 _ hq5 ?_)
  exact zk_vreturn dX12_findOrders_85 rfl (zk_rVw (Option.some.inj h))
set_option maxRecDepth 100000 in
set_option maxHeartbeats 4000000 in
theorem fMd_orders_L60_ok {d : Nat} {Z : zkZ} (hd : 3 ≤ d)  : ∀ (n : Nat) (mem : zkM) (x1 : Int32) (x2 : Int32) (x3 : Int32) (x4 : Int32) (z : Int32), fMd_orders_L60 n mem x2 x3 = some z → zk_J zSM d zY_X12_orders Z 88 [some (.ref 0), some (.int x1), some (.int x2), some (.int z), some (.int x4)] [] mem → zk_J zSM d zY_X12_orders Z 60 [some (.ref 0), some (.int x1), some (.int x2), some (.int x3), some (.int x4)] [] mem := by
  intro n
  induction n with
  | zero => intro mem x1 x2 x3 x4 z h; cases h
  | succ n ih =>
    intro mem x1 x2 x3 x4 z h he
    rw [fMd_orders_L60] at h
    refine zk_aload_n (i := 0) dX12_orders_60 rfl rfl ?_
    refine zk_iload_n (i := 2) dX12_orders_61 rfl rfl ?_
    refine zk_iload_n (i := 3) dX12_orders_62 rfl rfl ?_
    obtain ⟨q1, hq1, h⟩ := zk_ob h
    refine zk_callVi zY_X12_mayLay 0 12 [_, _] dX12_orders_63 zl_X12_mayLay zc_X12_256 zk_ok12 (Nat.le_of_ble_eq_true rfl) rfl (fMd_mayLay_ok (d := 1) (Nat.le_refl _) mem _ _ _ hq1) (Nat.lt_of_lt_of_le (by decide) hd) (Nat.le_of_ble_eq_true rfl) ?_
    refine zk_if_eq 82 dX12_orders_66 rfl (fun c4 => ?_) (fun c4 => ?_)
    · have h := zk_it _ h c4
      refine zk_iinc2 dX12_orders_82 rfl zki_1 (Nat.le_of_ble_eq_true rfl) rfl ?_
      refine zk_goto 60 dX12_orders_85 rfl ?_
      exact zk_weak (zk_leS (zk_leS (zk_leS (zk_leS (zk_leS zk_leE))))) (ih mem x1 x2 (x3 + (1 : Int32)) x4 _ h he)
    · have h := zk_if _ h c4
      refine zk_aload_n (i := 0) dX12_orders_69 rfl rfl ?_
      refine zk_getR 0 12 33 dX12_orders_70 zf_X12_66 (Nat.le_of_ble_eq_true rfl) rfl rfl ?_
      refine zk_iload_n (i := 2) dX12_orders_73 rfl rfl ?_
      refine zk_iconst dX12_orders_74 zki_1 ?_
      refine zk_iload_n (i := 3) dX12_orders_75 rfl rfl ?_
      refine zk_ishl dX12_orders_76 ?_
      refine zk_ior dX12_orders_77 ?_
      obtain ⟨b2, h⟩ := zk_gd h
      refine zk_iaload 19 64 dX12_orders_78 (Nat.le_of_ble_eq_true rfl) rfl (zk_inb_in b2) ?_
      refine zk_if_ne 88 dX12_orders_79 rfl (fun c3 => ?_) (fun c3 => ?_)
      · have h := zk_if _ h c3
        cases h
        exact zk_weak (zk_leS (zk_leS (zk_leS (zk_leS (zk_leS zk_leE))))) he
      · have h := zk_it _ h c3
        refine zk_iinc2 dX12_orders_82 rfl zki_1 (Nat.le_of_ble_eq_true rfl) rfl ?_
        refine zk_goto 60 dX12_orders_85 rfl ?_
        exact zk_weak (zk_leS (zk_leS (zk_leS (zk_leS (zk_leS zk_leE))))) (ih mem x1 x2 (x3 + (1 : Int32)) x4 _ h he)
set_option maxRecDepth 100000 in
set_option maxHeartbeats 4000000 in
theorem fMd_orders_L52_ok {d : Nat} {Z : zkZ} (hd : 3 ≤ d)  : ∀ (n : Nat) (mem : zkM) (x1 : Int32) (x2 : Int32) (x3 : Int32) (x4 : Int32) (z : Int32), fMd_orders_L52 n mem x1 x2 x3 x4 = some z → zk_J zSM d zY_X12_orders Z 100 [none, none, none, some (.int z), none] [] mem → zk_J zSM d zY_X12_orders Z 52 [some (.ref 0), some (.int x1), some (.int x2), some (.int x3), some (.int x4)] [] mem := by
  intro n
  induction n with
  | zero => intro mem x1 x2 x3 x4 z h; cases h
  | succ n ih =>
    intro mem x1 x2 x3 x4 z h he
    rw [fMd_orders_L52] at h
    refine zk_iload dX12_orders_52 rfl ?_
    refine zk_iload_n (i := 1) dX12_orders_54 rfl rfl ?_
    refine zk_icmp_gt 100 dX12_orders_55 rfl (fun c3 => ?_) (fun c3 => ?_)
    · have h := zk_it _ h c3
      cases h
      exact zk_weak (zk_leN (zk_leN (zk_leN (zk_leS (zk_leN zk_leE))))) he
    · have h := zk_if _ h c3
      refine zk_iconst dX12_orders_58 zki_0 ?_
      refine zk_istore_n (i := 3) dX12_orders_59 rfl (Nat.le_of_ble_eq_true rfl) rfl ?_
      obtain ⟨q1, hq1, h⟩ := zk_ob h
      refine zk_weak (zk_leS (zk_leS (zk_leS (zk_leS (zk_leS zk_leE))))) (fMd_orders_L60_ok hd 500 mem x1 x2 (0 : Int32) x4 _ hq1 ?_)
      refine zk_iload_n (i := 2) dX12_orders_88 rfl rfl ?_
      refine zk_iconst dX12_orders_89 zki_1 ?_
      refine zk_iload_n (i := 3) dX12_orders_90 rfl rfl ?_
      refine zk_ishl dX12_orders_91 ?_
      refine zk_ior dX12_orders_92 ?_
      obtain ⟨v2, ev2, h⟩ := zk_lt h
      refine zk_istore_n' (i := 2) dX12_orders_93 rfl ev2 (Nat.le_of_ble_eq_true rfl) rfl ?_
      refine zk_iinc2 dX12_orders_94 rfl zki_1 (Nat.le_of_ble_eq_true rfl) rfl ?_
      refine zk_goto 52 dX12_orders_97 rfl ?_
      exact zk_weak (zk_leS (zk_leS (zk_leS (zk_leS (zk_leS zk_leE))))) (ih mem x1 v2 q1 (x4 + (1 : Int32)) _ h he)
set_option maxRecDepth 100000 in
set_option maxHeartbeats 4000000 in
theorem fMd_orders_ok {d : Nat} (hd : 3 ≤ d) (mem : zkM) (a1 : Int32) (z : Int32 × zkM) (h : fMd_orders mem a1 = some z) : zk_X zSM d zY_X12_orders [.ref 0, .int a1] mem (some (.int z.1), z.2) := by
  unfold fMd_orders at h
  refine zk_meet (n := 3) (lv := [some (.ref 0), some (.int a1), none, none, none]) zpn_X12 rfl (Nat.le_of_ble_eq_true rfl) ?_
  refine zk_iload_n (i := 1) dX12_orders_0 rfl rfl ?_
  refine zk_iconst dX12_orders_1 zki_m1 ?_
  refine zk_icmp_ge 7 dX12_orders_2 rfl (fun c6 => ?_) (fun c6 => ?_)
  · have h := zk_it _ h c6
    refine zk_aload_n (i := 0) dX12_orders_7 rfl rfl ?_
    obtain ⟨q1, hq1, h⟩ := zk_ob h
    refine zk_callVv zY_X12_findOrders 0 12 [] dX12_orders_8 zl_X12_findOrders zc_X12_259 zk_ok12 (Nat.le_of_ble_eq_true rfl) rfl (fMd_findOrders_ok (d := 2) (Nat.le_refl _) mem  _ hq1) (Nat.lt_of_lt_of_le (by decide) hd) (Nat.le_of_ble_eq_true rfl) ?_
    refine zk_iload_n (i := 1) dX12_orders_11 rfl rfl ?_
    refine zk_if_ge 22 dX12_orders_12 rfl (fun c5 => ?_) (fun c5 => ?_)
    · have h := zk_it _ h c5
      refine zk_aload_n (i := 0) dX12_orders_22 rfl rfl ?_
      refine zk_getR 0 12 33 dX12_orders_23 zf_X12_66 (Nat.le_of_ble_eq_true rfl) rfl rfl ?_
      refine zk_iconst dX12_orders_26 zki_0 ?_
      refine zk_iaload 19 64 dX12_orders_27 (Nat.le_of_ble_eq_true rfl) rfl (zk_inb_in (by decide)) ?_
      refine zk_if_ne 34 dX12_orders_28 rfl (fun c4 => ?_) (fun c4 => ?_)
      · have h := zk_if _ h c4
        refine zk_iload_n (i := 1) dX12_orders_34 rfl rfl ?_
        refine zk_aload_n (i := 0) dX12_orders_35 rfl rfl ?_
        refine zk_getI 0 12 2 dX12_orders_36 zf_X12_77 (Nat.le_of_ble_eq_true rfl) rfl rfl ?_
        refine zk_icmp_lt 45 dX12_orders_39 rfl (fun c3 => ?_) (fun c3 => ?_)
        · have h := zk_it _ h c3
          refine zk_iconst dX12_orders_45 zki_0 ?_
          refine zk_istore_n (i := 2) dX12_orders_46 rfl (Nat.le_of_ble_eq_true rfl) rfl ?_
          refine zk_iconst dX12_orders_47 zki_0 ?_
          refine zk_istore_n (i := 3) dX12_orders_48 rfl (Nat.le_of_ble_eq_true rfl) rfl ?_
          refine zk_iconst dX12_orders_49 zki_0 ?_
          refine zk_istore dX12_orders_50 (Nat.le_of_ble_eq_true rfl) rfl ?_
          obtain ⟨q2, hq2, h⟩ := zk_ob h
          refine zk_weak (zk_leS (zk_leS (zk_leS (zk_leS (zk_leS zk_leE))))) (fMd_orders_L52_ok hd 500 q1 a1 (0 : Int32) (0 : Int32) (0 : Int32) _ hq2 ?_)
          refine zk_iload_n (i := 3) dX12_orders_100 rfl rfl ?_
          exact zk_ireturn dX12_orders_101 rfl (zk_rIw (Option.some.inj h))
        · have h := zk_if _ h c3
          refine zk_bipush dX12_orders_42 zkb_m5 ?_
          exact zk_ireturn dX12_orders_44 rfl (zk_rIw (Option.some.inj h))
      · have h := zk_it _ h c4
        refine zk_bipush dX12_orders_31 zkb_m9 ?_
        exact zk_ireturn dX12_orders_33 rfl (zk_rIw (Option.some.inj h))
    · have h := zk_if _ h c5
      refine zk_aload_n (i := 0) dX12_orders_15 rfl rfl ?_
      refine zk_getR 0 12 33 dX12_orders_16 zf_X12_66 (Nat.le_of_ble_eq_true rfl) rfl rfl ?_
      refine zk_iconst dX12_orders_19 zki_0 ?_
      refine zk_iaload 19 64 dX12_orders_20 (Nat.le_of_ble_eq_true rfl) rfl (zk_inb_in (by decide)) ?_
      exact zk_ireturn dX12_orders_21 rfl (zk_rIw (Option.some.inj h))
  · have h := zk_if _ h c6
    refine zk_iconst dX12_orders_5 zki_m1 ?_
    exact zk_ireturn dX12_orders_6 rfl (zk_rIw (Option.some.inj h))
set_option maxRecDepth 100000 in
set_option maxHeartbeats 4000000 in
theorem fMd_barred_L17_ok {d : Nat} {Z : zkZ} (hd : 2 ≤ d)  : ∀ (n : Nat) (mem : zkM) (x1 : Int32) (x2 : Int32) (x3 : Int32) (x4 : Int32) (z : Int32), fMd_barred_L17 n mem x1 x3 x4 = some z → zk_J zSM d zY_X12_barred Z 53 [some (.ref 0), none, some (.int x2), some (.int z), none] [] mem → zk_J zSM d zY_X12_barred Z 17 [some (.ref 0), some (.int x1), some (.int x2), some (.int x3), some (.int x4)] [] mem := by
  intro n
  induction n with
  | zero => intro mem x1 x2 x3 x4 z h; cases h
  | succ n ih =>
    intro mem x1 x2 x3 x4 z h he
    rw [fMd_barred_L17] at h
    refine zk_iload dX12_barred_17 rfl ?_
    refine zk_aload_n (i := 0) dX12_barred_19 rfl rfl ?_
    refine zk_getI 0 12 2 dX12_barred_20 zf_X12_77 (Nat.le_of_ble_eq_true rfl) rfl rfl ?_
    refine zk_icmp_ge 53 dX12_barred_23 rfl (fun c5 => ?_) (fun c5 => ?_)
    · have h := zk_it _ h c5
      cases h
      exact zk_weak (zk_leS (zk_leN (zk_leS (zk_leS (zk_leN zk_leE))))) he
    · have h := zk_if _ h c5
      refine zk_iload_n (i := 3) dX12_barred_26 rfl rfl ?_
      refine zk_aload_n (i := 0) dX12_barred_27 rfl rfl ?_
      refine zk_iload_n (i := 1) dX12_barred_28 rfl rfl ?_
      refine zk_iload dX12_barred_29 rfl ?_
      obtain ⟨q1, hq1, h⟩ := zk_ob h
      refine zk_callVi zY_X12_mayLay 0 12 [_, _] dX12_barred_31 zl_X12_mayLay zc_X12_256 zk_ok12 (Nat.le_of_ble_eq_true rfl) rfl (fMd_mayLay_ok (d := 1) (Nat.le_refl _) mem _ _ _ hq1) (Nat.lt_of_lt_of_le (by decide) hd) (Nat.le_of_ble_eq_true rfl) ?_
      obtain ⟨q2, hq2, h⟩ := zk_lt h
      have Jq2 : zk_J zSM d zY_X12_barred Z 45 [some (.ref 0), some (.int x1), some (.int x2), none, some (.int x4)] [.int q2, .int x3] mem := by
        refine zk_ior dX12_barred_45 ?_
        obtain ⟨v4, ev4, h⟩ := zk_lt h
        refine zk_istore_n' (i := 3) dX12_barred_46 rfl ev4 (Nat.le_of_ble_eq_true rfl) rfl ?_
        refine zk_iinc2 dX12_barred_47 rfl zki_1 (Nat.le_of_ble_eq_true rfl) rfl ?_
        refine zk_goto 17 dX12_barred_50 rfl ?_
        exact zk_weak (zk_leS (zk_leS (zk_leS (zk_leS (zk_leS zk_leE))))) (ih mem x1 x2 v4 (x4 + (1 : Int32)) _ h he)
      have h := hq2
      clear hq2
      refine zk_if_eq 44 dX12_barred_34 rfl (fun c3 => ?_) (fun c3 => ?_)
      · have h := zk_it _ h c3
        refine zk_iconst dX12_barred_44 zki_0 ?_
        subst h
        exact zk_weak (zk_leS (zk_leS (zk_leS (zk_leN (zk_leS zk_leE))))) Jq2
      · have h := zk_if _ h c3
        refine zk_iconst dX12_barred_37 zki_1 ?_
        refine zk_iload dX12_barred_38 rfl ?_
        refine zk_ishl dX12_barred_40 ?_
        refine zk_goto 45 dX12_barred_41 rfl ?_
        subst h
        exact zk_weak (zk_leS (zk_leS (zk_leS (zk_leN (zk_leS zk_leE))))) Jq2
set_option maxRecDepth 100000 in
set_option maxHeartbeats 4000000 in
theorem fMd_barred_L4_ok {d : Nat} {Z : zkZ} (hd : 2 ≤ d)  : ∀ (n : Nat) (mem : zkM) (x1 : Int32) (x2 : Int32) (z : Int32), fMd_barred_L4 n mem x1 x2 = some z → zk_J zSM d zY_X12_barred Z 61 [some (.ref 0), some (.int z), none, none, none] [] mem → zk_J zSM d zY_X12_barred Z 4 [some (.ref 0), some (.int x1), some (.int x2), none, none] [] mem := by
  intro n
  induction n with
  | zero => intro mem x1 x2 z h; cases h
  | succ n ih =>
    intro mem x1 x2 z h he
    rw [fMd_barred_L4] at h
    refine zk_iload_n (i := 2) dX12_barred_4 rfl rfl ?_
    refine zk_aload_n (i := 0) dX12_barred_5 rfl rfl ?_
    refine zk_getI 0 12 2 dX12_barred_6 zf_X12_77 (Nat.le_of_ble_eq_true rfl) rfl rfl ?_
    refine zk_icmp_ge 61 dX12_barred_9 rfl (fun c2 => ?_) (fun c2 => ?_)
    · have h := zk_it _ h c2
      cases h
      exact zk_weak (zk_leS (zk_leS (zk_leN (zk_leN (zk_leN zk_leE))))) he
    · have h := zk_if _ h c2
      refine zk_iload_n (i := 1) dX12_barred_12 rfl rfl ?_
      refine zk_istore_n (i := 3) dX12_barred_13 rfl (Nat.le_of_ble_eq_true rfl) rfl ?_
      refine zk_iconst dX12_barred_14 zki_0 ?_
      refine zk_istore dX12_barred_15 (Nat.le_of_ble_eq_true rfl) rfl ?_
      obtain ⟨q1, hq1, h⟩ := zk_ob h
      refine zk_weak (zk_leS (zk_leS (zk_leS (zk_leS (zk_leS zk_leE))))) (fMd_barred_L17_ok hd 500 mem x1 x2 x1 (0 : Int32) _ hq1 ?_)
      refine zk_iload_n (i := 3) dX12_barred_53 rfl rfl ?_
      refine zk_istore_n (i := 1) dX12_barred_54 rfl (Nat.le_of_ble_eq_true rfl) rfl ?_
      refine zk_iinc2 dX12_barred_55 rfl zki_1 (Nat.le_of_ble_eq_true rfl) rfl ?_
      refine zk_goto 4 dX12_barred_58 rfl ?_
      exact zk_weak (zk_leS (zk_leS (zk_leS (zk_leN (zk_leN zk_leE))))) (ih mem q1 (x2 + (1 : Int32)) _ h he)
set_option maxRecDepth 100000 in
set_option maxHeartbeats 4000000 in
theorem fMd_barred_ok {d : Nat} (hd : 2 ≤ d) (mem : zkM) (z : Int32) (h : fMd_barred mem = some z) : zk_X zSM d zY_X12_barred [.ref 0] mem (some (.int z), mem) := by
  unfold fMd_barred at h
  refine zk_meet (n := 4) (lv := [some (.ref 0), none, none, none, none]) zpn_X12 rfl (Nat.le_of_ble_eq_true rfl) ?_
  refine zk_iconst dX12_barred_0 zki_0 ?_
  refine zk_istore_n (i := 1) dX12_barred_1 rfl (Nat.le_of_ble_eq_true rfl) rfl ?_
  refine zk_iconst dX12_barred_2 zki_0 ?_
  refine zk_istore_n (i := 2) dX12_barred_3 rfl (Nat.le_of_ble_eq_true rfl) rfl ?_
  obtain ⟨q1, hq1, h⟩ := zk_ob h
  refine zk_weak (zk_leS (zk_leS (zk_leS (zk_leN (zk_leN zk_leE))))) (fMd_barred_L4_ok hd 500 mem (0 : Int32) (0 : Int32) _ hq1 ?_)
  refine zk_iconst dX12_barred_61 zki_1 ?_
  refine zk_aload_n (i := 0) dX12_barred_62 rfl rfl ?_
  refine zk_getI 0 12 2 dX12_barred_63 zf_X12_77 (Nat.le_of_ble_eq_true rfl) rfl rfl ?_
  refine zk_ishl dX12_barred_66 ?_
  refine zk_iconst dX12_barred_67 zki_1 ?_
  refine zk_isub dX12_barred_68 ?_
  refine zk_iload_n (i := 1) dX12_barred_69 rfl rfl ?_
  refine zk_iconst dX12_barred_70 zki_m1 ?_
  refine zk_ixor dX12_barred_71 ?_
  refine zk_iand dX12_barred_72 ?_
  exact zk_ireturn dX12_barred_73 rfl (zk_rI (Option.some.inj h))
set_option maxRecDepth 100000 in
set_option maxHeartbeats 4000000 in
theorem fMd_bits_L4_ok {d : Nat} {Z : zkZ} (hd : 0 ≤ d)  : ∀ (n : Nat) (mem : zkM) (x1 : Int32) (x2 : Int32) (z : Int32), fMd_bits_L4 n mem x1 x2 = some z → zk_J zSM d zY_X12_bits Z 20 [none, some (.int z), none] [] mem → zk_J zSM d zY_X12_bits Z 4 [none, some (.int x1), some (.int x2)] [] mem := by
  intro n
  induction n with
  | zero => intro mem x1 x2 z h; cases h
  | succ n ih =>
    intro mem x1 x2 z h he
    rw [fMd_bits_L4] at h
    refine zk_iload_n (i := 2) dX12_bits_4 rfl rfl ?_
    refine zk_if_le 20 dX12_bits_5 rfl (fun c2 => ?_) (fun c2 => ?_)
    · have h := zk_it _ h c2
      cases h
      exact zk_weak (zk_leN (zk_leS (zk_leN zk_leE))) he
    · have h := zk_if _ h c2
      refine zk_iinc2 dX12_bits_8 rfl zki_1 (Nat.le_of_ble_eq_true rfl) rfl ?_
      refine zk_iload_n (i := 2) dX12_bits_11 rfl rfl ?_
      refine zk_iload_n (i := 2) dX12_bits_12 rfl rfl ?_
      refine zk_iconst dX12_bits_13 zki_1 ?_
      refine zk_isub dX12_bits_14 ?_
      refine zk_iand dX12_bits_15 ?_
      obtain ⟨v1, ev1, h⟩ := zk_lt h
      refine zk_istore_n' (i := 2) dX12_bits_16 rfl ev1 (Nat.le_of_ble_eq_true rfl) rfl ?_
      refine zk_goto 4 dX12_bits_17 rfl ?_
      exact zk_weak (zk_leN (zk_leS (zk_leS zk_leE))) (ih mem (x1 + (1 : Int32)) v1 _ h he)
set_option maxRecDepth 100000 in
set_option maxHeartbeats 4000000 in
theorem fMd_bits_ok {d : Nat} (hd : 0 ≤ d) (mem : zkM) (a0 : Int32) (z : Int32) (h : fMd_bits mem a0 = some z) : zk_X zSM d zY_X12_bits [.int a0] mem (some (.int z), mem) := by
  unfold fMd_bits at h
  refine zk_meet (n := 2) (lv := [some (.int a0), none, none]) zpn_X12 rfl (Nat.le_of_ble_eq_true rfl) ?_
  refine zk_iconst dX12_bits_0 zki_0 ?_
  refine zk_istore_n (i := 1) dX12_bits_1 rfl (Nat.le_of_ble_eq_true rfl) rfl ?_
  refine zk_iload_n (i := 0) dX12_bits_2 rfl rfl ?_
  refine zk_istore_n (i := 2) dX12_bits_3 rfl (Nat.le_of_ble_eq_true rfl) rfl ?_
  obtain ⟨q1, hq1, h⟩ := zk_ob h
  refine zk_weak (zk_leN (zk_leS (zk_leS zk_leE))) (fMd_bits_L4_ok hd 500 mem (0 : Int32) a0 _ hq1 ?_)
  refine zk_iload_n (i := 1) dX12_bits_20 rfl rfl ?_
  exact zk_ireturn dX12_bits_21 rfl (zk_rI (Option.some.inj h))
set_option maxRecDepth 100000 in
set_option maxHeartbeats 4000000 in
theorem fMd_hoist_L47_ok {d : Nat} {Z : zkZ} (hd : 2 ≤ d)  : ∀ (n : Nat) (mem : zkM) (x1 : Int32) (x2 : Int32) (x3 : Int32) (x4 : Int32) (x5 : Int32) (x6 : Int32) (z : Int32), fMd_hoist_L47 n mem x4 x5 x6 = some z → zk_J zSM d zY_X12_hoist Z 90 [some (.ref 0), some (.int x1), some (.int x2), some (.int x3), some (.int x4), some (.int z), none] [] mem → zk_J zSM d zY_X12_hoist Z 47 [some (.ref 0), some (.int x1), some (.int x2), some (.int x3), some (.int x4), some (.int x5), some (.int x6)] [] mem := by
  intro n
  induction n with
  | zero => intro mem x1 x2 x3 x4 x5 x6 z h; cases h
  | succ n ih =>
    intro mem x1 x2 x3 x4 x5 x6 z h he
    rw [fMd_hoist_L47] at h
    refine zk_iload dX12_hoist_47 rfl ?_
    refine zk_aload_n (i := 0) dX12_hoist_49 rfl rfl ?_
    refine zk_getI 0 12 4 dX12_hoist_50 zf_X12_80 (Nat.le_of_ble_eq_true rfl) rfl rfl ?_
    refine zk_icmp_ge 90 dX12_hoist_53 rfl (fun c5 => ?_) (fun c5 => ?_)
    · have h := zk_it _ h c5
      cases h
      exact zk_weak (zk_leS (zk_leS (zk_leS (zk_leS (zk_leS (zk_leS (zk_leN zk_leE))))))) he
    · have h := zk_if _ h c5
      refine zk_iload dX12_hoist_56 rfl ?_
      refine zk_iload dX12_hoist_58 rfl ?_
      refine zk_iload dX12_hoist_60 rfl ?_
      refine zk_callSi zY_X12_has [_, _] dX12_hoist_62 zl_X12_has zc_X12_253 (fMd_has_ok (d := 0) (Nat.le_refl _) mem _ _ _ rfl) (Nat.lt_of_lt_of_le (by decide) hd) (Nat.le_of_ble_eq_true rfl) ?_
      obtain ⟨q1, hq1, h⟩ := zk_ob h
      have Jq1 : zk_J zSM d zY_X12_hoist Z 81 [some (.ref 0), some (.int x1), some (.int x2), some (.int x3), some (.int x4), none, some (.int x6)] [.int q1, .int x5] mem := by
        refine zk_iadd dX12_hoist_81 ?_
        obtain ⟨v4, ev4, h⟩ := zk_lt h
        refine zk_istore' dX12_hoist_82 ev4 (Nat.le_of_ble_eq_true rfl) rfl ?_
        refine zk_iinc2 dX12_hoist_84 rfl zki_1 (Nat.le_of_ble_eq_true rfl) rfl ?_
        refine zk_goto 47 dX12_hoist_87 rfl ?_
        exact zk_weak (zk_leS (zk_leS (zk_leS (zk_leS (zk_leS (zk_leS (zk_leS zk_leE))))))) (ih mem x1 x2 x3 x4 v4 (x6 + (1 : Int32)) _ h he)
      have h := hq1
      clear hq1
      refine zk_if_eq 80 dX12_hoist_65 rfl (fun c3 => ?_) (fun c3 => ?_)
      · have h := zk_it _ h c3
        refine zk_iconst dX12_hoist_80 zki_0 ?_
        cases h
        exact zk_weak (zk_leS (zk_leS (zk_leS (zk_leS (zk_leS (zk_leN (zk_leS zk_leE))))))) Jq1
      · have h := zk_if _ h c3
        refine zk_aload_n (i := 0) dX12_hoist_68 rfl rfl ?_
        refine zk_getR 0 12 5 dX12_hoist_69 zf_X12_16 (Nat.le_of_ble_eq_true rfl) rfl rfl ?_
        refine zk_iconst dX12_hoist_72 zki_2 ?_
        refine zk_iload dX12_hoist_73 rfl ?_
        refine zk_imul dX12_hoist_75 ?_
        obtain ⟨b2, h⟩ := zk_gd h
        refine zk_iaload 3 10 dX12_hoist_76 (Nat.le_of_ble_eq_true rfl) rfl (zk_inb_in b2) ?_
        refine zk_goto 81 dX12_hoist_77 rfl ?_
        cases h
        exact zk_weak (zk_leS (zk_leS (zk_leS (zk_leS (zk_leS (zk_leN (zk_leS zk_leE))))))) Jq1
set_option maxRecDepth 100000 in
set_option maxHeartbeats 4000000 in
theorem fMd_hoist_L30_ok {d : Nat} {Z : zkZ} (hd : 2 ≤ d)  : ∀ (n : Nat) (mem : zkM) (x1 : Int32) (x2 : Int32) (x3 : Int32) (x4 : Int32) (z : Int32), fMd_hoist_L30 n mem x1 x2 x3 x4 = some z → zk_J zSM d zY_X12_hoist Z 174 [none, none, none, some (.int z), none, none, none] [] mem → zk_J zSM d zY_X12_hoist Z 30 [some (.ref 0), some (.int x1), some (.int x2), some (.int x3), some (.int x4), none, none] [] mem := by
  intro n
  induction n with
  | zero => intro mem x1 x2 x3 x4 z h; cases h
  | succ n ih =>
    intro mem x1 x2 x3 x4 z h he
    rw [fMd_hoist_L30] at h
    refine zk_iload dX12_hoist_30 rfl ?_
    refine zk_iconst dX12_hoist_32 zki_1 ?_
    refine zk_aload_n (i := 0) dX12_hoist_33 rfl rfl ?_
    refine zk_getI 0 12 4 dX12_hoist_34 zf_X12_80 (Nat.le_of_ble_eq_true rfl) rfl rfl ?_
    refine zk_ishl dX12_hoist_37 ?_
    refine zk_icmp_ge 174 dX12_hoist_38 rfl (fun c14 => ?_) (fun c14 => ?_)
    · have h := zk_it _ h c14
      cases h
      exact zk_weak (zk_leN (zk_leN (zk_leN (zk_leS (zk_leN (zk_leN (zk_leN zk_leE))))))) he
    · have h := zk_if _ h c14
      refine zk_iconst dX12_hoist_41 zki_0 ?_
      refine zk_istore dX12_hoist_42 (Nat.le_of_ble_eq_true rfl) rfl ?_
      refine zk_iconst dX12_hoist_44 zki_0 ?_
      refine zk_istore dX12_hoist_45 (Nat.le_of_ble_eq_true rfl) rfl ?_
      obtain ⟨q1, hq1, h⟩ := zk_ob h
      refine zk_weak (zk_leS (zk_leS (zk_leS (zk_leS (zk_leS (zk_leS (zk_leS zk_leE))))))) (fMd_hoist_L47_ok hd 500 mem x1 x2 x3 x4 (0 : Int32) (0 : Int32) _ hq1 ?_)
      refine zk_iload dX12_hoist_90 rfl ?_
      refine zk_iload_n (i := 2) dX12_hoist_92 rfl rfl ?_
      refine zk_aload_n (i := 0) dX12_hoist_93 rfl rfl ?_
      refine zk_getR 0 12 1 dX12_hoist_94 zf_X12_7 (Nat.le_of_ble_eq_true rfl) rfl rfl ?_
      refine zk_iconst dX12_hoist_97 zki_3 ?_
      refine zk_iload_n (i := 1) dX12_hoist_98 rfl rfl ?_
      refine zk_imul dX12_hoist_99 ?_
      obtain ⟨b2, h⟩ := zk_gd h
      refine zk_iaload 1 24 dX12_hoist_100 (Nat.le_of_ble_eq_true rfl) rfl (zk_inb_in b2) ?_
      refine zk_iconst dX12_hoist_101 zki_4 ?_
      refine zk_idiv dX12_hoist_102 (by decide) ?_
      refine zk_iadd dX12_hoist_103 ?_
      obtain ⟨q3, hq3, h⟩ := zk_ob h
      have Jq3 : zk_J zSM d zY_X12_hoist Z 136 [some (.ref 0), some (.int x1), some (.int x2), some (.int x3), some (.int x4), none, none] [.int (zk_b q3)] mem := by
        refine zk_istore dX12_hoist_136 (Nat.le_of_ble_eq_true rfl) rfl ?_
        refine zk_iload dX12_hoist_138 rfl ?_
        obtain ⟨q8, hq8, h⟩ := zk_ob h
        have Jq8 : zk_J zSM d zY_X12_hoist Z 167 [some (.ref 0), some (.int x1), some (.int x2), none, some (.int x4), none, none] [.int q8] mem := by
          refine zk_istore_n (i := 3) dX12_hoist_167 rfl (Nat.le_of_ble_eq_true rfl) rfl ?_
          refine zk_iinc2 dX12_hoist_168 rfl zki_1 (Nat.le_of_ble_eq_true rfl) rfl ?_
          refine zk_goto 30 dX12_hoist_171 rfl ?_
          exact zk_weak (zk_leS (zk_leS (zk_leS (zk_leS (zk_leS (zk_leN (zk_leN zk_leE))))))) (ih mem x1 x2 q8 (x4 + (1 : Int32)) _ h he)
        have h := hq8
        clear hq8
        refine zk_if_eq 166 dX12_hoist_140 rfl (fun c13 => ?_) (fun c13 => ?_)
        · have h := zk_it _ h c13
          refine zk_iload_n (i := 3) dX12_hoist_166 rfl rfl ?_
          cases h
          exact zk_weak (zk_leS (zk_leS (zk_leS (zk_leN (zk_leS (zk_leN (zk_leN zk_leE))))))) Jq8
        · have h := zk_if _ h c13
          refine zk_iload_n (i := 3) dX12_hoist_143 rfl rfl ?_
          refine zk_bipush dX12_hoist_144 zkb_m9 ?_
          refine zk_icmp_eq 161 dX12_hoist_146 rfl (fun c12 => ?_) (fun c12 => ?_)
          · have h := zk_it _ h c12
            refine zk_iload dX12_hoist_161 rfl ?_
            refine zk_goto 167 dX12_hoist_163 rfl ?_
            cases h
            exact zk_weak (zk_leS (zk_leS (zk_leS (zk_leN (zk_leS (zk_leN (zk_leN zk_leE))))))) Jq8
          · have h := zk_if _ h c12
            refine zk_iload dX12_hoist_149 rfl ?_
            obtain ⟨q9, hq9, h⟩ := zk_ob h
            refine zk_callSi zY_X12_bits [_] dX12_hoist_151 zl_X12_bits zc_X12_262 (fMd_bits_ok (d := 0) (Nat.le_refl _) mem _ _ hq9) (Nat.lt_of_lt_of_le (by decide) hd) (Nat.le_of_ble_eq_true rfl) ?_
            refine zk_iload_n (i := 3) dX12_hoist_154 rfl rfl ?_
            obtain ⟨q10, hq10, h⟩ := zk_ob h
            refine zk_callSi zY_X12_bits [_] dX12_hoist_155 zl_X12_bits zc_X12_262 (fMd_bits_ok (d := 0) (Nat.le_refl _) mem _ _ hq10) (Nat.lt_of_lt_of_le (by decide) hd) (Nat.le_of_ble_eq_true rfl) ?_
            refine zk_icmp_ge 166 dX12_hoist_158 rfl (fun c11 => ?_) (fun c11 => ?_)
            · have h := zk_it _ h c11
              refine zk_iload_n (i := 3) dX12_hoist_166 rfl rfl ?_
              cases h
              exact zk_weak (zk_leS (zk_leS (zk_leS (zk_leN (zk_leS (zk_leN (zk_leN zk_leE))))))) Jq8
            · have h := zk_if _ h c11
              refine zk_iload dX12_hoist_161 rfl ?_
              refine zk_goto 167 dX12_hoist_163 rfl ?_
              cases h
              exact zk_weak (zk_leS (zk_leS (zk_leS (zk_leN (zk_leS (zk_leN (zk_leN zk_leE))))))) Jq8
      have h := hq3
      clear hq3
      refine zk_icmp_lt 135 dX12_hoist_104 rfl (fun c7 => ?_) (fun c7 => ?_)
      · have h := zk_it _ h c7
        refine zk_iconst dX12_hoist_135 zki_0 ?_
        cases h
        exact zk_weak (zk_leS (zk_leS (zk_leS (zk_leS (zk_leS (zk_leN (zk_leN zk_leE))))))) Jq3
      · have h := zk_if _ h c7
        refine zk_aload_n (i := 0) dX12_hoist_107 rfl rfl ?_
        refine zk_getR 0 12 29 dX12_hoist_108 zf_X12_53 (Nat.le_of_ble_eq_true rfl) rfl rfl ?_
        refine zk_iload_n (i := 1) dX12_hoist_111 rfl rfl ?_
        obtain ⟨b4, h⟩ := zk_gd h
        refine zk_iaload 15 8 dX12_hoist_112 (Nat.le_of_ble_eq_true rfl) rfl (zk_inb_in b4) ?_
        refine zk_iload_n (i := 2) dX12_hoist_113 rfl rfl ?_
        refine zk_iadd dX12_hoist_114 ?_
        refine zk_iload dX12_hoist_115 rfl ?_
        refine zk_iadd dX12_hoist_117 ?_
        refine zk_aload_n (i := 0) dX12_hoist_118 rfl rfl ?_
        refine zk_getR 0 12 1 dX12_hoist_119 zf_X12_7 (Nat.le_of_ble_eq_true rfl) rfl rfl ?_
        refine zk_iconst dX12_hoist_122 zki_3 ?_
        refine zk_iload_n (i := 1) dX12_hoist_123 rfl rfl ?_
        refine zk_imul dX12_hoist_124 ?_
        refine zk_iconst dX12_hoist_125 zki_1 ?_
        refine zk_iadd dX12_hoist_126 ?_
        obtain ⟨b5, h⟩ := zk_gd h
        refine zk_iaload 1 24 dX12_hoist_127 (Nat.le_of_ble_eq_true rfl) rfl (zk_inb_in b5) ?_
        refine zk_icmp_gt 135 dX12_hoist_128 rfl (fun c6 => ?_) (fun c6 => ?_)
        · have h := zk_it _ h c6
          refine zk_iconst dX12_hoist_135 zki_0 ?_
          cases h
          exact zk_weak (zk_leS (zk_leS (zk_leS (zk_leS (zk_leS (zk_leN (zk_leN zk_leE))))))) Jq3
        · have h := zk_if _ h c6
          refine zk_iconst dX12_hoist_131 zki_1 ?_
          refine zk_goto 136 dX12_hoist_132 rfl ?_
          cases h
          exact zk_weak (zk_leS (zk_leS (zk_leS (zk_leS (zk_leS (zk_leN (zk_leN zk_leE))))))) Jq3
set_option maxRecDepth 100000 in
set_option maxHeartbeats 4000000 in
theorem fMd_hoist_ok {d : Nat} (hd : 2 ≤ d) (mem : zkM) (a1 : Int32) (a2 : Int32) (z : Int32 × zkM) (h : fMd_hoist mem a1 a2 = some z) : zk_X zSM d zY_X12_hoist [.ref 0, .int a1, .int a2] mem (some (.int z.1), z.2) := by
  unfold fMd_hoist at h
  refine zk_meet (n := 4) (lv := [some (.ref 0), some (.int a1), some (.int a2), none, none, none, none]) zpn_X12 rfl (Nat.le_of_ble_eq_true rfl) ?_
  refine zk_aload_n (i := 0) dX12_hoist_0 rfl rfl ?_
  refine zk_iload_n (i := 1) dX12_hoist_1 rfl rfl ?_
  refine zk_callVi zY_X12_isBough 0 12 [_] dX12_hoist_2 zl_X12_isBough zc_X12_178 zk_ok12 (Nat.le_of_ble_eq_true rfl) rfl (fMd_isBough_ok (d := 1) (Nat.le_refl _) mem _ _ rfl) (Nat.lt_of_lt_of_le (by decide) hd) (Nat.le_of_ble_eq_true rfl) ?_
  refine zk_if_eq 18 dX12_hoist_5 rfl (fun c4 => ?_) (fun c4 => ?_)
  · have h := zk_it _ h c4
    refine zk_iconst dX12_hoist_18 zki_m1 ?_
    exact zk_ireturn dX12_hoist_19 rfl (zk_rIw (Option.some.inj h))
  · have h := zk_if _ h c4
    refine zk_iload_n (i := 2) dX12_hoist_8 rfl rfl ?_
    refine zk_iconst dX12_hoist_9 zki_1 ?_
    refine zk_bipush dX12_hoist_10 zkb_60 ?_
    refine zk_callSi zY_X12_in [_, _, _] dX12_hoist_12 zl_X12_in zc_X12_73 (fMd_in_ok (d := 0) (Nat.le_refl _) mem _ _ _ _ rfl) (Nat.lt_of_lt_of_le (by decide) hd) (Nat.le_of_ble_eq_true rfl) ?_
    refine zk_if_ne 20 dX12_hoist_15 rfl (fun c3 => ?_) (fun c3 => ?_)
    · have h := zk_if _ h c3
      refine zk_aload_n (i := 0) dX12_hoist_20 rfl rfl ?_
      obtain ⟨q1, hq1, h⟩ := zk_ob h
      refine zk_callVv zY_X12_layLoadsNow 0 12 [] dX12_hoist_21 zl_X12_layLoadsNow zc_X12_182 zk_ok12 (Nat.le_of_ble_eq_true rfl) rfl (fMd_layLoadsNow_ok (d := 1) (Nat.le_refl _) mem  _ hq1) (Nat.lt_of_lt_of_le (by decide) hd) (Nat.le_of_ble_eq_true rfl) ?_
      refine zk_bipush dX12_hoist_24 zkb_m9 ?_
      refine zk_istore_n (i := 3) dX12_hoist_26 rfl (Nat.le_of_ble_eq_true rfl) rfl ?_
      refine zk_iconst dX12_hoist_27 zki_0 ?_
      refine zk_istore dX12_hoist_28 (Nat.le_of_ble_eq_true rfl) rfl ?_
      obtain ⟨q2, hq2, h⟩ := zk_ob h
      refine zk_weak (zk_leS (zk_leS (zk_leS (zk_leS (zk_leS (zk_leN (zk_leN zk_leE))))))) (fMd_hoist_L30_ok hd 500 q1 a1 a2 (-9 : Int32) (0 : Int32) _ hq2 ?_)
      refine zk_iload_n (i := 3) dX12_hoist_174 rfl rfl ?_
      exact zk_ireturn dX12_hoist_175 rfl (zk_rIw (Option.some.inj h))
    · have h := zk_it _ h c3
      refine zk_iconst dX12_hoist_18 zki_m1 ?_
      exact zk_ireturn dX12_hoist_19 rfl (zk_rIw (Option.some.inj h))
set_option maxRecDepth 100000 in
set_option maxHeartbeats 4000000 in
theorem fMd_test_ok {d : Nat} (hd : 2 ≤ d) (mem : zkM) (a1 : Int32) (a2 : Int32) (a3 : Int32) (z : Int32 × zkM) (h : fMd_test mem a1 a2 a3 = some z) : zk_X zSM d zY_X12_test [.ref 0, .int a1, .int a2, .int a3] mem (some (.int z.1), z.2) := by
  unfold fMd_test at h
  refine zk_meet (n := 0) (lv := [some (.ref 0), some (.int a1), some (.int a2), some (.int a3)]) zpn_X12 rfl (Nat.le_of_ble_eq_true rfl) ?_
  refine zk_aload_n (i := 0) dX12_test_0 rfl rfl ?_
  refine zk_iload_n (i := 1) dX12_test_1 rfl rfl ?_
  refine zk_callVi zY_X12_isPlank 0 12 [_] dX12_test_2 zl_X12_isPlank zc_X12_185 zk_ok12 (Nat.le_of_ble_eq_true rfl) rfl (fMd_isPlank_ok (d := 1) (Nat.le_refl _) mem _ _ rfl) (Nat.lt_of_lt_of_le (by decide) hd) (Nat.le_of_ble_eq_true rfl) ?_
  refine zk_if_eq 27 dX12_test_5 rfl (fun c11 => ?_) (fun c11 => ?_)
  · have h := zk_it _ h c11
    refine zk_iconst dX12_test_27 zki_m1 ?_
    exact zk_ireturn dX12_test_28 rfl (zk_rIw (Option.some.inj h))
  · have h := zk_if _ h c11
    refine zk_iload_n (i := 2) dX12_test_8 rfl rfl ?_
    refine zk_iconst dX12_test_9 zki_1 ?_
    refine zk_bipush dX12_test_10 zkb_60 ?_
    refine zk_callSi zY_X12_in [_, _, _] dX12_test_12 zl_X12_in zc_X12_73 (fMd_in_ok (d := 0) (Nat.le_refl _) mem _ _ _ _ rfl) (Nat.lt_of_lt_of_le (by decide) hd) (Nat.le_of_ble_eq_true rfl) ?_
    refine zk_if_eq 27 dX12_test_15 rfl (fun c10 => ?_) (fun c10 => ?_)
    · have h := zk_it _ h c10
      refine zk_iconst dX12_test_27 zki_m1 ?_
      exact zk_ireturn dX12_test_28 rfl (zk_rIw (Option.some.inj h))
    · have h := zk_if _ h c10
      refine zk_iload_n (i := 3) dX12_test_18 rfl rfl ?_
      refine zk_iconst dX12_test_19 zki_0 ?_
      refine zk_iconst dX12_test_20 zki_1 ?_
      refine zk_callSi zY_X12_in [_, _, _] dX12_test_21 zl_X12_in zc_X12_73 (fMd_in_ok (d := 0) (Nat.le_refl _) mem _ _ _ _ rfl) (Nat.lt_of_lt_of_le (by decide) hd) (Nat.le_of_ble_eq_true rfl) ?_
      refine zk_if_ne 29 dX12_test_24 rfl (fun c9 => ?_) (fun c9 => ?_)
      · have h := zk_if _ h c9
        refine zk_aload_n (i := 0) dX12_test_29 rfl rfl ?_
        refine zk_getI 0 12 11 dX12_test_30 zf_X12_145 (Nat.le_of_ble_eq_true rfl) rfl rfl ?_
        refine zk_bipush dX12_test_33 zkb_6 ?_
        refine zk_icmp_ne 41 dX12_test_35 rfl (fun c8 => ?_) (fun c8 => ?_)
        · have h := zk_if _ h c8
          refine zk_aload_n (i := 0) dX12_test_41 rfl rfl ?_
          refine zk_getR 0 12 12 dX12_test_42 zf_X12_32 (Nat.le_of_ble_eq_true rfl) rfl rfl ?_
          refine zk_iconst dX12_test_45 zki_3 ?_
          refine zk_aload_n (i := 0) dX12_test_46 rfl rfl ?_
          refine zk_getI 0 12 11 dX12_test_47 zf_X12_145 (Nat.le_of_ble_eq_true rfl) rfl rfl ?_
          refine zk_imul dX12_test_50 ?_
          refine zk_iload_n (i := 1) dX12_test_51 rfl rfl ?_
          obtain ⟨b1, h⟩ := zk_gd h
          obtain ⟨m2, em2, h⟩ := zk_lt h
          refine zk_iastore' 8 18 dX12_test_52 (Nat.le_of_ble_eq_true rfl) rfl (zk_inb_in b1) em2 ?_
          refine zk_aload_n (i := 0) dX12_test_53 rfl rfl ?_
          refine zk_getR 0 12 12 dX12_test_54 zf_X12_32 (Nat.le_of_ble_eq_true rfl) rfl rfl ?_
          refine zk_iconst dX12_test_57 zki_3 ?_
          refine zk_aload_n (i := 0) dX12_test_58 rfl rfl ?_
          refine zk_getI 0 12 11 dX12_test_59 zf_X12_145 (Nat.le_of_ble_eq_true rfl) rfl rfl ?_
          refine zk_imul dX12_test_62 ?_
          refine zk_iconst dX12_test_63 zki_1 ?_
          refine zk_iadd dX12_test_64 ?_
          refine zk_iload_n (i := 2) dX12_test_65 rfl rfl ?_
          obtain ⟨b3, h⟩ := zk_gd h
          obtain ⟨m4, em4, h⟩ := zk_lt h
          refine zk_iastore' 8 18 dX12_test_66 (Nat.le_of_ble_eq_true rfl) rfl (zk_inb_in b3) em4 ?_
          refine zk_aload_n (i := 0) dX12_test_67 rfl rfl ?_
          refine zk_getR 0 12 12 dX12_test_68 zf_X12_32 (Nat.le_of_ble_eq_true rfl) rfl rfl ?_
          refine zk_iconst dX12_test_71 zki_3 ?_
          refine zk_aload_n (i := 0) dX12_test_72 rfl rfl ?_
          refine zk_getI 0 12 11 dX12_test_73 zf_X12_145 (Nat.le_of_ble_eq_true rfl) rfl rfl ?_
          refine zk_imul dX12_test_76 ?_
          refine zk_iconst dX12_test_77 zki_2 ?_
          refine zk_iadd dX12_test_78 ?_
          refine zk_iload_n (i := 3) dX12_test_79 rfl rfl ?_
          obtain ⟨b5, h⟩ := zk_gd h
          obtain ⟨m6, em6, h⟩ := zk_lt h
          refine zk_iastore' 8 18 dX12_test_80 (Nat.le_of_ble_eq_true rfl) rfl (zk_inb_in b5) em6 ?_
          refine zk_aload_n (i := 0) dX12_test_81 rfl rfl ?_
          refine zk_dup dX12_test_82 rfl ?_
          refine zk_getI 0 12 11 dX12_test_83 zf_X12_145 (Nat.le_of_ble_eq_true rfl) rfl rfl ?_
          refine zk_iconst dX12_test_86 zki_1 ?_
          refine zk_iadd dX12_test_87 ?_
          obtain ⟨m7, em7, h⟩ := zk_lt h
          refine zk_putI' 0 12 11 dX12_test_88 zp_X12_145 (Nat.le_of_ble_eq_true rfl) rfl rfl em7 ?_
          refine zk_aload_n (i := 0) dX12_test_91 rfl rfl ?_
          refine zk_getI 0 12 11 dX12_test_92 zf_X12_145 (Nat.le_of_ble_eq_true rfl) rfl rfl ?_
          exact zk_ireturn dX12_test_95 rfl (zk_rIw (Option.some.inj h))
        · have h := zk_it _ h c8
          refine zk_bipush dX12_test_38 zkb_m3 ?_
          exact zk_ireturn dX12_test_40 rfl (zk_rIw (Option.some.inj h))
      · have h := zk_it _ h c9
        refine zk_iconst dX12_test_27 zki_m1 ?_
        exact zk_ireturn dX12_test_28 rfl (zk_rIw (Option.some.inj h))
