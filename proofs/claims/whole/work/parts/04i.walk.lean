set_option maxRecDepth 100000 in
set_option maxHeartbeats 4000000 in
theorem fMd_layLoads_L93_ok {d : Nat} {Z : zkZ} (hd : 0 ≤ d)  : ∀ (n : Nat) (mem : zkM) (x1 : Int32) (z : zkM), fMd_layLoads_L93 n mem x1 = some z → zk_J zSM d zY_X12_layLoads Z 159 [none, none] [] z → zk_J zSM d zY_X12_layLoads Z 93 [some (.ref 0), some (.int x1)] [] mem := by
  intro n
  induction n with
  | zero => intro mem x1 z h; cases h
  | succ n ih =>
    intro mem x1 z h he
    rw [fMd_layLoads_L93] at h
    refine zk_iload_n (i := 1) dX12_layLoads_93 rfl rfl ?_
    refine zk_aload_n (i := 0) dX12_layLoads_94 rfl rfl ?_
    refine zk_getI 0 12 2 dX12_layLoads_95 zf_X12_77 (Nat.le_of_ble_eq_true rfl) rfl rfl ?_
    refine zk_icmp_ge 159 dX12_layLoads_98 rfl (fun c11 => ?_) (fun c11 => ?_)
    · have h := zk_it _ h c11
      cases h
      exact zk_weak (zk_leN (zk_leN zk_leE)) he
    · have h := zk_if _ h c11
      refine zk_aload_n (i := 0) dX12_layLoads_101 rfl rfl ?_
      refine zk_getR 0 12 29 dX12_layLoads_102 zf_X12_53 (Nat.le_of_ble_eq_true rfl) rfl rfl ?_
      refine zk_aload_n (i := 0) dX12_layLoads_105 rfl rfl ?_
      refine zk_getR 0 12 3 dX12_layLoads_106 zf_X12_13 (Nat.le_of_ble_eq_true rfl) rfl rfl ?_
      refine zk_iconst dX12_layLoads_109 zki_3 ?_
      refine zk_iload_n (i := 1) dX12_layLoads_110 rfl rfl ?_
      refine zk_imul dX12_layLoads_111 ?_
      obtain ⟨b1, h⟩ := zk_gd h
      refine zk_iaload 2 18 dX12_layLoads_112 (Nat.le_of_ble_eq_true rfl) rfl (zk_inb_in b1) ?_
      refine zk_dup2 dX12_layLoads_113 rfl rfl ?_
      obtain ⟨b2, h⟩ := zk_gd h
      refine zk_iaload 15 8 dX12_layLoads_114 (Nat.le_of_ble_eq_true rfl) rfl (zk_inb_in b2) ?_
      refine zk_aload_n (i := 0) dX12_layLoads_115 rfl rfl ?_
      refine zk_getR 0 12 28 dX12_layLoads_116 zf_X12_50 (Nat.le_of_ble_eq_true rfl) rfl rfl ?_
      refine zk_iload_n (i := 1) dX12_layLoads_119 rfl rfl ?_
      obtain ⟨b3, h⟩ := zk_gd h
      refine zk_iaload 14 6 dX12_layLoads_120 (Nat.le_of_ble_eq_true rfl) rfl (zk_inb_in b3) ?_
      refine zk_iconst dX12_layLoads_121 zki_1 ?_
      refine zk_iadd dX12_layLoads_122 ?_
      refine zk_iconst dX12_layLoads_123 zki_2 ?_
      refine zk_idiv dX12_layLoads_124 (by decide) ?_
      refine zk_iadd dX12_layLoads_125 ?_
      obtain ⟨b4, h⟩ := zk_gd h
      obtain ⟨m5, em5, h⟩ := zk_lt h
      refine zk_iastore' 15 8 dX12_layLoads_126 (Nat.le_of_ble_eq_true rfl) rfl (zk_inb_in b4) em5 ?_
      refine zk_aload_n (i := 0) dX12_layLoads_127 rfl rfl ?_
      refine zk_getR 0 12 29 dX12_layLoads_128 zf_X12_53 (Nat.le_of_ble_eq_true rfl) rfl rfl ?_
      refine zk_aload_n (i := 0) dX12_layLoads_131 rfl rfl ?_
      refine zk_getR 0 12 3 dX12_layLoads_132 zf_X12_13 (Nat.le_of_ble_eq_true rfl) rfl rfl ?_
      refine zk_iconst dX12_layLoads_135 zki_3 ?_
      refine zk_iload_n (i := 1) dX12_layLoads_136 rfl rfl ?_
      refine zk_imul dX12_layLoads_137 ?_
      refine zk_iconst dX12_layLoads_138 zki_1 ?_
      refine zk_iadd dX12_layLoads_139 ?_
      obtain ⟨b6, h⟩ := zk_gd h
      refine zk_iaload 2 18 dX12_layLoads_140 (Nat.le_of_ble_eq_true rfl) rfl (zk_inb_in b6) ?_
      refine zk_dup2 dX12_layLoads_141 rfl rfl ?_
      obtain ⟨b7, h⟩ := zk_gd h
      refine zk_iaload 15 8 dX12_layLoads_142 (Nat.le_of_ble_eq_true rfl) rfl (zk_inb_in b7) ?_
      refine zk_aload_n (i := 0) dX12_layLoads_143 rfl rfl ?_
      refine zk_getR 0 12 28 dX12_layLoads_144 zf_X12_50 (Nat.le_of_ble_eq_true rfl) rfl rfl ?_
      refine zk_iload_n (i := 1) dX12_layLoads_147 rfl rfl ?_
      obtain ⟨b8, h⟩ := zk_gd h
      refine zk_iaload 14 6 dX12_layLoads_148 (Nat.le_of_ble_eq_true rfl) rfl (zk_inb_in b8) ?_
      refine zk_iconst dX12_layLoads_149 zki_2 ?_
      refine zk_idiv dX12_layLoads_150 (by decide) ?_
      refine zk_iadd dX12_layLoads_151 ?_
      obtain ⟨b9, h⟩ := zk_gd h
      obtain ⟨m10, em10, h⟩ := zk_lt h
      refine zk_iastore' 15 8 dX12_layLoads_152 (Nat.le_of_ble_eq_true rfl) rfl (zk_inb_in b9) em10 ?_
      refine zk_iinc2 dX12_layLoads_153 rfl zki_1 (Nat.le_of_ble_eq_true rfl) rfl ?_
      refine zk_goto 93 dX12_layLoads_156 rfl ?_
      exact zk_weak (zk_leS (zk_leS zk_leE)) (ih m10 (x1 + (1 : Int32)) _ h he)
set_option maxRecDepth 100000 in
set_option maxHeartbeats 4000000 in
theorem fMd_layLoads_ok {d : Nat} (hd : 0 ≤ d) (mem : zkM) (z : zkM) (h : fMd_layLoads mem = some z) : zk_X zSM d zY_X12_layLoads [.ref 0] mem (none, z) := by
  unfold fMd_layLoads at h
  refine zk_meet (n := 1) (lv := [some (.ref 0), none]) zpn_X12 rfl (Nat.le_of_ble_eq_true rfl) ?_
  refine zk_iconst dX12_layLoads_0 zki_0 ?_
  refine zk_istore_n (i := 1) dX12_layLoads_1 rfl (Nat.le_of_ble_eq_true rfl) rfl ?_
  obtain ⟨q1, hq1, h⟩ := zk_ob h
  refine zk_weak (zk_leS (zk_leS zk_leE)) (fMd_layLoads_L2_ok hd 500 mem (0 : Int32) _ hq1 ?_)
  refine zk_iconst dX12_layLoads_21 zki_0 ?_
  refine zk_istore_n (i := 1) dX12_layLoads_22 rfl (Nat.le_of_ble_eq_true rfl) rfl ?_
  obtain ⟨q2, hq2, h⟩ := zk_ob h
  refine zk_weak (zk_leS (zk_leS zk_leE)) (fMd_layLoads_L23_ok hd 500 q1 (0 : Int32) _ hq2 ?_)
  refine zk_iconst dX12_layLoads_42 zki_0 ?_
  refine zk_istore_n (i := 1) dX12_layLoads_43 rfl (Nat.le_of_ble_eq_true rfl) rfl ?_
  obtain ⟨q3, hq3, h⟩ := zk_ob h
  refine zk_weak (zk_leS (zk_leS zk_leE)) (fMd_layLoads_L44_ok hd 500 q2 (0 : Int32) _ hq3 ?_)
  refine zk_iconst dX12_layLoads_91 zki_0 ?_
  refine zk_istore_n (i := 1) dX12_layLoads_92 rfl (Nat.le_of_ble_eq_true rfl) rfl ?_
  obtain ⟨q4, hq4, h⟩ := zk_ob h
  refine zk_weak (zk_leS (zk_leS zk_leE)) (fMd_layLoads_L93_ok hd 500 q3 (0 : Int32) _ hq4 ?_)
  exact zk_vreturn dX12_layLoads_159 rfl (zk_rVw (Option.some.inj h))
set_option maxRecDepth 100000 in
set_option maxHeartbeats 4000000 in
theorem fMd_layLoadsNow_ok {d : Nat} (hd : 1 ≤ d) (mem : zkM) (z : zkM) (h : fMd_layLoadsNow mem = some z) : zk_X zSM d zY_X12_layLoadsNow [.ref 0] mem (none, z) := by
  unfold fMd_layLoadsNow at h
  refine zk_meet (n := 0) (lv := [some (.ref 0)]) zpn_X12 rfl (Nat.le_of_ble_eq_true rfl) ?_
  refine zk_aload_n (i := 0) dX12_layLoadsNow_0 rfl rfl ?_
  obtain ⟨q1, hq1, h⟩ := zk_ob h
  refine zk_callVv zY_X12_layNow 0 12 [] dX12_layLoadsNow_1 zl_X12_layNow zc_X12_148 zk_ok12 (Nat.le_of_ble_eq_true rfl) rfl (fMd_layNow_ok (d := 0) (Nat.le_refl _) mem  _ hq1) (Nat.lt_of_lt_of_le (by decide) hd) (Nat.le_of_ble_eq_true rfl) ?_
  refine zk_aload_n (i := 0) dX12_layLoadsNow_4 rfl rfl ?_
  obtain ⟨q2, hq2, h⟩ := zk_ob h
  refine zk_callVv zY_X12_layLoads 0 12 [] dX12_layLoadsNow_5 zl_X12_layLoads zc_X12_151 zk_ok12 (Nat.le_of_ble_eq_true rfl) rfl (fMd_layLoads_ok (d := 0) (Nat.le_refl _) q1  _ hq2) (Nat.lt_of_lt_of_le (by decide) hd) (Nat.le_of_ble_eq_true rfl) ?_
  exact zk_vreturn dX12_layLoadsNow_8 rfl (zk_rVw (Option.some.inj h))
set_option maxRecDepth 100000 in
set_option maxHeartbeats 4000000 in
theorem fMd_bough_ok {d : Nat} (hd : 2 ≤ d) (mem : zkM) (a1 : Int32) (a2 : Int32) (z : Int32 × zkM) (h : fMd_bough mem a1 a2 = some z) : zk_X zSM d zY_X12_bough [.ref 0, .int a1, .int a2] mem (some (.int z.1), z.2) := by
  unfold fMd_bough at h
  refine zk_meet (n := 0) (lv := [some (.ref 0), some (.int a1), some (.int a2)]) zpn_X12 rfl (Nat.le_of_ble_eq_true rfl) ?_
  refine zk_aload_n (i := 0) dX12_bough_0 rfl rfl ?_
  refine zk_iload_n (i := 1) dX12_bough_1 rfl rfl ?_
  refine zk_callVi zY_X12_isBough 0 12 [_] dX12_bough_2 zl_X12_isBough zc_X12_178 zk_ok12 (Nat.le_of_ble_eq_true rfl) rfl (fMd_isBough_ok (d := 1) (Nat.le_refl _) mem _ _ rfl) (Nat.lt_of_lt_of_le (by decide) hd) (Nat.le_of_ble_eq_true rfl) ?_
  refine zk_if_eq 17 dX12_bough_5 rfl (fun c6 => ?_) (fun c6 => ?_)
  · have h := zk_it _ h c6
    refine zk_iconst dX12_bough_17 zki_m1 ?_
    exact zk_ireturn dX12_bough_18 rfl (zk_rIw (Option.some.inj h))
  · have h := zk_if _ h c6
    refine zk_iload_n (i := 2) dX12_bough_8 rfl rfl ?_
    refine zk_iconst dX12_bough_9 zki_0 ?_
    refine zk_iconst dX12_bough_10 zki_3 ?_
    refine zk_callSi zY_X12_in [_, _, _] dX12_bough_11 zl_X12_in zc_X12_73 (fMd_in_ok (d := 0) (Nat.le_refl _) mem _ _ _ _ rfl) (Nat.lt_of_lt_of_le (by decide) hd) (Nat.le_of_ble_eq_true rfl) ?_
    refine zk_if_ne 19 dX12_bough_14 rfl (fun c5 => ?_) (fun c5 => ?_)
    · have h := zk_if _ h c5
      refine zk_aload_n (i := 0) dX12_bough_19 rfl rfl ?_
      obtain ⟨q1, hq1, h⟩ := zk_ob h
      refine zk_callVv zY_X12_layLoadsNow 0 12 [] dX12_bough_20 zl_X12_layLoadsNow zc_X12_182 zk_ok12 (Nat.le_of_ble_eq_true rfl) rfl (fMd_layLoadsNow_ok (d := 1) (Nat.le_refl _) mem  _ hq1) (Nat.lt_of_lt_of_le (by decide) hd) (Nat.le_of_ble_eq_true rfl) ?_
      refine zk_iload_n (i := 2) dX12_bough_23 rfl rfl ?_
      refine zk_iconst dX12_bough_24 zki_3 ?_
      refine zk_icmp_ne 37 dX12_bough_25 rfl (fun c4 => ?_) (fun c4 => ?_)
      · have h := zk_if _ h c4
        refine zk_aload_n (i := 0) dX12_bough_37 rfl rfl ?_
        refine zk_getR 0 12 1 dX12_bough_38 zf_X12_7 (Nat.le_of_ble_eq_true rfl) rfl rfl ?_
        refine zk_iconst dX12_bough_41 zki_3 ?_
        refine zk_iload_n (i := 1) dX12_bough_42 rfl rfl ?_
        refine zk_imul dX12_bough_43 ?_
        refine zk_iload_n (i := 2) dX12_bough_44 rfl rfl ?_
        refine zk_iadd dX12_bough_45 ?_
        obtain ⟨b2, h⟩ := zk_gd h
        refine zk_iaload 1 24 dX12_bough_46 (Nat.le_of_ble_eq_true rfl) rfl (zk_inb_in b2) ?_
        exact zk_ireturn dX12_bough_47 rfl (zk_rIw (Option.some.inj h))
      · have h := zk_it _ h c4
        refine zk_aload_n (i := 0) dX12_bough_28 rfl rfl ?_
        refine zk_getR 0 12 29 dX12_bough_29 zf_X12_53 (Nat.le_of_ble_eq_true rfl) rfl rfl ?_
        refine zk_iload_n (i := 1) dX12_bough_32 rfl rfl ?_
        obtain ⟨b3, h⟩ := zk_gd h
        refine zk_iaload 15 8 dX12_bough_33 (Nat.le_of_ble_eq_true rfl) rfl (zk_inb_in b3) ?_
        refine zk_goto 47 dX12_bough_34 rfl ?_
        exact zk_ireturn dX12_bough_47 rfl (zk_rIw (Option.some.inj h))
    · have h := zk_it _ h c5
      refine zk_iconst dX12_bough_17 zki_m1 ?_
      exact zk_ireturn dX12_bough_18 rfl (zk_rIw (Option.some.inj h))
set_option maxRecDepth 100000 in
set_option maxHeartbeats 4000000 in
theorem fMd_isPlank_ok {d : Nat} (hd : 1 ≤ d) (mem : zkM) (a1 : Int32) (z : Bool) (h : fMd_isPlank mem a1 = z) : zk_X zSM d zY_X12_isPlank [.ref 0, .int a1] mem (some (.int (zk_b z)), mem) := by
  unfold fMd_isPlank at h
  refine zk_meet (n := 0) (lv := [some (.ref 0), some (.int a1)]) zpn_X12 rfl (Nat.le_of_ble_eq_true rfl) ?_
  refine zk_iload_n (i := 1) dX12_isPlank_0 rfl rfl ?_
  refine zk_iconst dX12_isPlank_1 zki_0 ?_
  refine zk_aload_n (i := 0) dX12_isPlank_2 rfl rfl ?_
  refine zk_getI 0 12 2 dX12_isPlank_3 zf_X12_77 (Nat.le_of_ble_eq_true rfl) rfl rfl ?_
  refine zk_iconst dX12_isPlank_6 zki_1 ?_
  refine zk_isub dX12_isPlank_7 ?_
  refine zk_callSi zY_X12_in [_, _, _] dX12_isPlank_8 zl_X12_in zc_X12_73 (fMd_in_ok (d := 0) (Nat.le_refl _) mem _ _ _ _ rfl) (Nat.lt_of_lt_of_le (by decide) hd) (Nat.le_of_ble_eq_true rfl) ?_
  exact zk_zreturn dX12_isPlank_11 rfl (zk_nb _) (zk_rZ h)
set_option maxRecDepth 100000 in
set_option maxHeartbeats 4000000 in
theorem fMd_plank_ok {d : Nat} (hd : 2 ≤ d) (mem : zkM) (a1 : Int32) (a2 : Int32) (z : Int32 × zkM) (h : fMd_plank mem a1 a2 = some z) : zk_X zSM d zY_X12_plank [.ref 0, .int a1, .int a2] mem (some (.int z.1), z.2) := by
  unfold fMd_plank at h
  refine zk_meet (n := 0) (lv := [some (.ref 0), some (.int a1), some (.int a2)]) zpn_X12 rfl (Nat.le_of_ble_eq_true rfl) ?_
  refine zk_aload_n (i := 0) dX12_plank_0 rfl rfl ?_
  refine zk_iload_n (i := 1) dX12_plank_1 rfl rfl ?_
  refine zk_callVi zY_X12_isPlank 0 12 [_] dX12_plank_2 zl_X12_isPlank zc_X12_185 zk_ok12 (Nat.le_of_ble_eq_true rfl) rfl (fMd_isPlank_ok (d := 1) (Nat.le_refl _) mem _ _ rfl) (Nat.lt_of_lt_of_le (by decide) hd) (Nat.le_of_ble_eq_true rfl) ?_
  refine zk_if_eq 17 dX12_plank_5 rfl (fun c6 => ?_) (fun c6 => ?_)
  · have h := zk_it _ h c6
    refine zk_iconst dX12_plank_17 zki_m1 ?_
    exact zk_ireturn dX12_plank_18 rfl (zk_rIw (Option.some.inj h))
  · have h := zk_if _ h c6
    refine zk_iload_n (i := 2) dX12_plank_8 rfl rfl ?_
    refine zk_iconst dX12_plank_9 zki_0 ?_
    refine zk_iconst dX12_plank_10 zki_3 ?_
    refine zk_callSi zY_X12_in [_, _, _] dX12_plank_11 zl_X12_in zc_X12_73 (fMd_in_ok (d := 0) (Nat.le_refl _) mem _ _ _ _ rfl) (Nat.lt_of_lt_of_le (by decide) hd) (Nat.le_of_ble_eq_true rfl) ?_
    refine zk_if_ne 19 dX12_plank_14 rfl (fun c5 => ?_) (fun c5 => ?_)
    · have h := zk_if _ h c5
      refine zk_aload_n (i := 0) dX12_plank_19 rfl rfl ?_
      obtain ⟨q1, hq1, h⟩ := zk_ob h
      refine zk_callVv zY_X12_layLoadsNow 0 12 [] dX12_plank_20 zl_X12_layLoadsNow zc_X12_182 zk_ok12 (Nat.le_of_ble_eq_true rfl) rfl (fMd_layLoadsNow_ok (d := 1) (Nat.le_refl _) mem  _ hq1) (Nat.lt_of_lt_of_le (by decide) hd) (Nat.le_of_ble_eq_true rfl) ?_
      refine zk_iload_n (i := 2) dX12_plank_23 rfl rfl ?_
      refine zk_iconst dX12_plank_24 zki_3 ?_
      refine zk_icmp_ne 37 dX12_plank_25 rfl (fun c4 => ?_) (fun c4 => ?_)
      · have h := zk_if _ h c4
        refine zk_aload_n (i := 0) dX12_plank_37 rfl rfl ?_
        refine zk_getR 0 12 3 dX12_plank_38 zf_X12_13 (Nat.le_of_ble_eq_true rfl) rfl rfl ?_
        refine zk_iconst dX12_plank_41 zki_3 ?_
        refine zk_iload_n (i := 1) dX12_plank_42 rfl rfl ?_
        refine zk_imul dX12_plank_43 ?_
        refine zk_iload_n (i := 2) dX12_plank_44 rfl rfl ?_
        refine zk_iadd dX12_plank_45 ?_
        obtain ⟨b2, h⟩ := zk_gd h
        refine zk_iaload 2 18 dX12_plank_46 (Nat.le_of_ble_eq_true rfl) rfl (zk_inb_in b2) ?_
        exact zk_ireturn dX12_plank_47 rfl (zk_rIw (Option.some.inj h))
      · have h := zk_it _ h c4
        refine zk_aload_n (i := 0) dX12_plank_28 rfl rfl ?_
        refine zk_getR 0 12 28 dX12_plank_29 zf_X12_50 (Nat.le_of_ble_eq_true rfl) rfl rfl ?_
        refine zk_iload_n (i := 1) dX12_plank_32 rfl rfl ?_
        obtain ⟨b3, h⟩ := zk_gd h
        refine zk_iaload 14 6 dX12_plank_33 (Nat.le_of_ble_eq_true rfl) rfl (zk_inb_in b3) ?_
        refine zk_goto 47 dX12_plank_34 rfl ?_
        exact zk_ireturn dX12_plank_47 rfl (zk_rIw (Option.some.inj h))
    · have h := zk_it _ h c5
      refine zk_iconst dX12_plank_17 zki_m1 ?_
      exact zk_ireturn dX12_plank_18 rfl (zk_rIw (Option.some.inj h))
set_option maxRecDepth 100000 in
set_option maxHeartbeats 4000000 in
theorem fMd_endAt_ok {d : Nat} (hd : 0 ≤ d) (mem : zkM) (a0 : Int32) (a1 : Int32) (z : Int32) (h : fMd_endAt a0 a1 = z) : zk_X zSM d zY_X12_endAt [.int a0, .int a1] mem (some (.int z), mem) := by
  unfold fMd_endAt at h
  refine zk_meet (n := 0) (lv := [some (.int a0), some (.int a1)]) zpn_X12 rfl (Nat.le_of_ble_eq_true rfl) ?_
  refine zk_bipush dX12_endAt_0 zkb_6 ?_
  refine zk_bipush dX12_endAt_2 zkb_6 ?_
  refine zk_iload_n (i := 0) dX12_endAt_4 rfl rfl ?_
  refine zk_imul dX12_endAt_5 ?_
  refine zk_iadd dX12_endAt_6 ?_
  refine zk_iconst dX12_endAt_7 zki_3 ?_
  refine zk_iload_n (i := 1) dX12_endAt_8 rfl rfl ?_
  refine zk_imul dX12_endAt_9 ?_
  refine zk_iadd dX12_endAt_10 ?_
  exact zk_ireturn dX12_endAt_11 rfl (zk_rI h)
set_option maxRecDepth 100000 in
set_option maxHeartbeats 4000000 in
theorem fMd_end_ok {d : Nat} (hd : 2 ≤ d) (mem : zkM) (a1 : Int32) (a2 : Int32) (a3 : Int32) (z : Int32) (h : fMd_end mem a1 a2 a3 = some z) : zk_X zSM d zY_X12_end [.ref 0, .int a1, .int a2, .int a3] mem (some (.int z), mem) := by
  unfold fMd_end at h
  refine zk_meet (n := 0) (lv := [some (.ref 0), some (.int a1), some (.int a2), some (.int a3)]) zpn_X12 rfl (Nat.le_of_ble_eq_true rfl) ?_
  refine zk_aload_n (i := 0) dX12_end_0 rfl rfl ?_
  refine zk_iload_n (i := 1) dX12_end_1 rfl rfl ?_
  refine zk_callVi zY_X12_isPlank 0 12 [_] dX12_end_2 zl_X12_isPlank zc_X12_185 zk_ok12 (Nat.le_of_ble_eq_true rfl) rfl (fMd_isPlank_ok (d := 1) (Nat.le_refl _) mem _ _ rfl) (Nat.lt_of_lt_of_le (by decide) hd) (Nat.le_of_ble_eq_true rfl) ?_
  refine zk_if_eq 41 dX12_end_5 rfl (fun c4 => ?_) (fun c4 => ?_)
  · have h := zk_it _ h c4
    refine zk_iconst dX12_end_41 zki_m1 ?_
    exact zk_ireturn dX12_end_42 rfl (zk_rI (Option.some.inj h))
  · have h := zk_if _ h c4
    refine zk_iload_n (i := 2) dX12_end_8 rfl rfl ?_
    refine zk_iconst dX12_end_9 zki_0 ?_
    refine zk_iconst dX12_end_10 zki_1 ?_
    refine zk_callSi zY_X12_in [_, _, _] dX12_end_11 zl_X12_in zc_X12_73 (fMd_in_ok (d := 0) (Nat.le_refl _) mem _ _ _ _ rfl) (Nat.lt_of_lt_of_le (by decide) hd) (Nat.le_of_ble_eq_true rfl) ?_
    refine zk_if_eq 41 dX12_end_14 rfl (fun c3 => ?_) (fun c3 => ?_)
    · have h := zk_it _ h c3
      refine zk_iconst dX12_end_41 zki_m1 ?_
      exact zk_ireturn dX12_end_42 rfl (zk_rI (Option.some.inj h))
    · have h := zk_if _ h c3
      refine zk_iload_n (i := 3) dX12_end_17 rfl rfl ?_
      refine zk_iconst dX12_end_18 zki_0 ?_
      refine zk_iconst dX12_end_19 zki_2 ?_
      refine zk_callSi zY_X12_in [_, _, _] dX12_end_20 zl_X12_in zc_X12_73 (fMd_in_ok (d := 0) (Nat.le_refl _) mem _ _ _ _ rfl) (Nat.lt_of_lt_of_le (by decide) hd) (Nat.le_of_ble_eq_true rfl) ?_
      refine zk_if_eq 41 dX12_end_23 rfl (fun c2 => ?_) (fun c2 => ?_)
      · have h := zk_it _ h c2
        refine zk_iconst dX12_end_41 zki_m1 ?_
        exact zk_ireturn dX12_end_42 rfl (zk_rI (Option.some.inj h))
      · have h := zk_if _ h c2
        refine zk_aload_n (i := 0) dX12_end_26 rfl rfl ?_
        refine zk_getR 0 12 6 dX12_end_27 zf_X12_19 (Nat.le_of_ble_eq_true rfl) rfl rfl ?_
        refine zk_iload_n (i := 1) dX12_end_30 rfl rfl ?_
        refine zk_iload_n (i := 2) dX12_end_31 rfl rfl ?_
        refine zk_callSi zY_X12_endAt [_, _] dX12_end_32 zl_X12_endAt zc_X12_188 (fMd_endAt_ok (d := 0) (Nat.le_refl _) mem _ _ _ rfl) (Nat.lt_of_lt_of_le (by decide) hd) (Nat.le_of_ble_eq_true rfl) ?_
        refine zk_iload_n (i := 3) dX12_end_35 rfl rfl ?_
        refine zk_iadd dX12_end_36 ?_
        obtain ⟨b1, h⟩ := zk_gd h
        refine zk_iaload 4 42 dX12_end_37 (Nat.le_of_ble_eq_true rfl) rfl (zk_inb_in b1) ?_
        refine zk_goto 42 dX12_end_38 rfl ?_
        exact zk_ireturn dX12_end_42 rfl (zk_rI (Option.some.inj h))
set_option maxRecDepth 100000 in
set_option maxHeartbeats 4000000 in
theorem fMd_isChild_ok {d : Nat} (hd : 1 ≤ d) (mem : zkM) (a1 : Int32) (z : Bool) (h : fMd_isChild mem a1 = z) : zk_X zSM d zY_X12_isChild [.ref 0, .int a1] mem (some (.int (zk_b z)), mem) := by
  unfold fMd_isChild at h
  refine zk_meet (n := 0) (lv := [some (.ref 0), some (.int a1)]) zpn_X12 rfl (Nat.le_of_ble_eq_true rfl) ?_
  refine zk_iload_n (i := 1) dX12_isChild_0 rfl rfl ?_
  refine zk_iconst dX12_isChild_1 zki_0 ?_
  refine zk_aload_n (i := 0) dX12_isChild_2 rfl rfl ?_
  refine zk_getI 0 12 4 dX12_isChild_3 zf_X12_80 (Nat.le_of_ble_eq_true rfl) rfl rfl ?_
  refine zk_iconst dX12_isChild_6 zki_1 ?_
  refine zk_isub dX12_isChild_7 ?_
  refine zk_callSi zY_X12_in [_, _, _] dX12_isChild_8 zl_X12_in zc_X12_73 (fMd_in_ok (d := 0) (Nat.le_refl _) mem _ _ _ _ rfl) (Nat.lt_of_lt_of_le (by decide) hd) (Nat.le_of_ble_eq_true rfl) ?_
  exact zk_zreturn dX12_isChild_11 rfl (zk_nb _) (zk_rZ h)
set_option maxRecDepth 100000 in
set_option maxHeartbeats 4000000 in
theorem fMd_child_ok {d : Nat} (hd : 2 ≤ d) (mem : zkM) (a1 : Int32) (a2 : Int32) (z : Int32) (h : fMd_child mem a1 a2 = some z) : zk_X zSM d zY_X12_child [.ref 0, .int a1, .int a2] mem (some (.int z), mem) := by
  unfold fMd_child at h
  refine zk_meet (n := 0) (lv := [some (.ref 0), some (.int a1), some (.int a2)]) zpn_X12 rfl (Nat.le_of_ble_eq_true rfl) ?_
  refine zk_aload_n (i := 0) dX12_child_0 rfl rfl ?_
  refine zk_iload_n (i := 1) dX12_child_1 rfl rfl ?_
  refine zk_callVi zY_X12_isChild 0 12 [_] dX12_child_2 zl_X12_isChild zc_X12_192 zk_ok12 (Nat.le_of_ble_eq_true rfl) rfl (fMd_isChild_ok (d := 1) (Nat.le_refl _) mem _ _ rfl) (Nat.lt_of_lt_of_le (by decide) hd) (Nat.le_of_ble_eq_true rfl) ?_
  refine zk_if_eq 17 dX12_child_5 rfl (fun c5 => ?_) (fun c5 => ?_)
  · have h := zk_it _ h c5
    refine zk_iconst dX12_child_17 zki_m1 ?_
    exact zk_ireturn dX12_child_18 rfl (zk_rI (Option.some.inj h))
  · have h := zk_if _ h c5
    refine zk_iload_n (i := 2) dX12_child_8 rfl rfl ?_
    refine zk_iconst dX12_child_9 zki_0 ?_
    refine zk_iconst dX12_child_10 zki_2 ?_
    refine zk_callSi zY_X12_in [_, _, _] dX12_child_11 zl_X12_in zc_X12_73 (fMd_in_ok (d := 0) (Nat.le_refl _) mem _ _ _ _ rfl) (Nat.lt_of_lt_of_le (by decide) hd) (Nat.le_of_ble_eq_true rfl) ?_
    refine zk_if_ne 19 dX12_child_14 rfl (fun c4 => ?_) (fun c4 => ?_)
    · have h := zk_if _ h c4
      refine zk_iload_n (i := 2) dX12_child_19 rfl rfl ?_
      refine zk_iconst dX12_child_20 zki_2 ?_
      refine zk_icmp_ne 35 dX12_child_21 rfl (fun c3 => ?_) (fun c3 => ?_)
      · have h := zk_if _ h c3
        refine zk_aload_n (i := 0) dX12_child_35 rfl rfl ?_
        refine zk_getR 0 12 5 dX12_child_36 zf_X12_16 (Nat.le_of_ble_eq_true rfl) rfl rfl ?_
        refine zk_iconst dX12_child_39 zki_2 ?_
        refine zk_iload_n (i := 1) dX12_child_40 rfl rfl ?_
        refine zk_imul dX12_child_41 ?_
        refine zk_iload_n (i := 2) dX12_child_42 rfl rfl ?_
        refine zk_iadd dX12_child_43 ?_
        obtain ⟨b1, h⟩ := zk_gd h
        refine zk_iaload 3 10 dX12_child_44 (Nat.le_of_ble_eq_true rfl) rfl (zk_inb_in b1) ?_
        exact zk_ireturn dX12_child_45 rfl (zk_rI (Option.some.inj h))
      · have h := zk_it _ h c3
        refine zk_aload_n (i := 0) dX12_child_24 rfl rfl ?_
        refine zk_getR 0 12 6 dX12_child_25 zf_X12_19 (Nat.le_of_ble_eq_true rfl) rfl rfl ?_
        refine zk_iconst dX12_child_28 zki_1 ?_
        refine zk_iload_n (i := 1) dX12_child_29 rfl rfl ?_
        refine zk_iadd dX12_child_30 ?_
        obtain ⟨b2, h⟩ := zk_gd h
        refine zk_iaload 4 42 dX12_child_31 (Nat.le_of_ble_eq_true rfl) rfl (zk_inb_in b2) ?_
        refine zk_goto 45 dX12_child_32 rfl ?_
        exact zk_ireturn dX12_child_45 rfl (zk_rI (Option.some.inj h))
    · have h := zk_it _ h c4
      refine zk_iconst dX12_child_17 zki_m1 ?_
      exact zk_ireturn dX12_child_18 rfl (zk_rI (Option.some.inj h))
set_option maxRecDepth 100000 in
set_option maxHeartbeats 4000000 in
theorem fMd_layEnds_L2_ok {d : Nat} {Z : zkZ} (hd : 0 ≤ d)  : ∀ (n : Nat) (mem : zkM) (x1 : Int32) (z : zkM), fMd_layEnds_L2 n mem x1 = some z → zk_J zSM d zY_X12_layEnds Z 29 [none, none] [] z → zk_J zSM d zY_X12_layEnds Z 2 [some (.ref 0), some (.int x1)] [] mem := by
  intro n
  induction n with
  | zero => intro mem x1 z h; cases h
  | succ n ih =>
    intro mem x1 z h he
    rw [fMd_layEnds_L2] at h
    refine zk_iload_n (i := 1) dX12_layEnds_2 rfl rfl ?_
    refine zk_bipush dX12_layEnds_3 zkb_36 ?_
    refine zk_icmp_ge 29 dX12_layEnds_5 rfl (fun c4 => ?_) (fun c4 => ?_)
    · have h := zk_it _ h c4
      cases h
      exact zk_weak (zk_leN (zk_leN zk_leE)) he
    · have h := zk_if _ h c4
      refine zk_aload_n (i := 0) dX12_layEnds_8 rfl rfl ?_
      refine zk_getR 0 12 30 dX12_layEnds_9 zf_X12_56 (Nat.le_of_ble_eq_true rfl) rfl rfl ?_
      refine zk_iload_n (i := 1) dX12_layEnds_12 rfl rfl ?_
      refine zk_aload_n (i := 0) dX12_layEnds_13 rfl rfl ?_
      refine zk_getR 0 12 6 dX12_layEnds_14 zf_X12_19 (Nat.le_of_ble_eq_true rfl) rfl rfl ?_
      refine zk_bipush dX12_layEnds_17 zkb_6 ?_
      refine zk_iload_n (i := 1) dX12_layEnds_19 rfl rfl ?_
      refine zk_iadd dX12_layEnds_20 ?_
      obtain ⟨b1, h⟩ := zk_gd h
      refine zk_iaload 4 42 dX12_layEnds_21 (Nat.le_of_ble_eq_true rfl) rfl (zk_inb_in b1) ?_
      obtain ⟨b2, h⟩ := zk_gd h
      obtain ⟨m3, em3, h⟩ := zk_lt h
      refine zk_iastore' 16 36 dX12_layEnds_22 (Nat.le_of_ble_eq_true rfl) rfl (zk_inb_in b2) em3 ?_
      refine zk_iinc2 dX12_layEnds_23 rfl zki_1 (Nat.le_of_ble_eq_true rfl) rfl ?_
      refine zk_goto 2 dX12_layEnds_26 rfl ?_
      exact zk_weak (zk_leS (zk_leS zk_leE)) (ih m3 (x1 + (1 : Int32)) _ h he)
set_option maxRecDepth 100000 in
set_option maxHeartbeats 4000000 in
theorem fMd_layEnds_ok {d : Nat} (hd : 0 ≤ d) (mem : zkM) (z : zkM) (h : fMd_layEnds mem = some z) : zk_X zSM d zY_X12_layEnds [.ref 0] mem (none, z) := by
  unfold fMd_layEnds at h
  refine zk_meet (n := 1) (lv := [some (.ref 0), none]) zpn_X12 rfl (Nat.le_of_ble_eq_true rfl) ?_
  refine zk_iconst dX12_layEnds_0 zki_0 ?_
  refine zk_istore_n (i := 1) dX12_layEnds_1 rfl (Nat.le_of_ble_eq_true rfl) rfl ?_
  obtain ⟨q1, hq1, h⟩ := zk_ob h
  refine zk_weak (zk_leS (zk_leS zk_leE)) (fMd_layEnds_L2_ok hd 500 mem (0 : Int32) _ hq1 ?_)
  exact zk_vreturn dX12_layEnds_29 rfl (zk_rVw (Option.some.inj h))
set_option maxRecDepth 100000 in
set_option maxHeartbeats 4000000 in
theorem fMd_firstHeavy_L10_ok {d : Nat} {Z : zkZ} (hd : 0 ≤ d)  : ∀ (n : Nat) (mem : zkM) (x1 : Int32) (x2 : Int32) (z : Int32), fMd_firstHeavy_L10 n mem x1 x2 = some z → zk_J zSM d zY_X12_firstHeavy Z 45 [none, some (.int z), none] [] mem → zk_J zSM d zY_X12_firstHeavy Z 10 [some (.ref 0), some (.int x1), some (.int x2)] [] mem := by
  intro n
  induction n with
  | zero => intro mem x1 x2 z h; cases h
  | succ n ih =>
    intro mem x1 x2 z h he
    rw [fMd_firstHeavy_L10] at h
    refine zk_iload_n (i := 2) dX12_firstHeavy_10 rfl rfl ?_
    refine zk_if_lt 45 dX12_firstHeavy_11 rfl (fun c5 => ?_) (fun c5 => ?_)
    · have h := zk_it _ h c5
      cases h
      exact zk_weak (zk_leN (zk_leS (zk_leN zk_leE))) he
    · have h := zk_if _ h c5
      refine zk_aload_n (i := 0) dX12_firstHeavy_14 rfl rfl ?_
      refine zk_getR 0 12 28 dX12_firstHeavy_15 zf_X12_50 (Nat.le_of_ble_eq_true rfl) rfl rfl ?_
      refine zk_iload_n (i := 2) dX12_firstHeavy_18 rfl rfl ?_
      obtain ⟨b1, h⟩ := zk_gd h
      refine zk_iaload 14 6 dX12_firstHeavy_19 (Nat.le_of_ble_eq_true rfl) rfl (zk_inb_in b1) ?_
      refine zk_aload_n (i := 0) dX12_firstHeavy_20 rfl rfl ?_
      refine zk_getR 0 12 3 dX12_firstHeavy_21 zf_X12_13 (Nat.le_of_ble_eq_true rfl) rfl rfl ?_
      refine zk_iconst dX12_firstHeavy_24 zki_3 ?_
      refine zk_iload_n (i := 2) dX12_firstHeavy_25 rfl rfl ?_
      refine zk_imul dX12_firstHeavy_26 ?_
      refine zk_iconst dX12_firstHeavy_27 zki_2 ?_
      refine zk_iadd dX12_firstHeavy_28 ?_
      obtain ⟨b2, h⟩ := zk_gd h
      refine zk_iaload 2 18 dX12_firstHeavy_29 (Nat.le_of_ble_eq_true rfl) rfl (zk_inb_in b2) ?_
      obtain ⟨q3, hq3, h⟩ := zk_lt h
      have Jq3 : zk_J zSM d zY_X12_firstHeavy Z 38 [some (.ref 0), none, some (.int x2)] [.int q3] mem := by
        refine zk_istore_n (i := 1) dX12_firstHeavy_38 rfl (Nat.le_of_ble_eq_true rfl) rfl ?_
        refine zk_iinc2 dX12_firstHeavy_39 rfl zki_m1 (Nat.le_of_ble_eq_true rfl) rfl ?_
        refine zk_goto 10 dX12_firstHeavy_42 rfl ?_
        exact zk_weak (zk_leS (zk_leS (zk_leS zk_leE))) (ih mem q3 (x2 + (-1 : Int32)) _ h he)
      have h := hq3
      clear hq3
      refine zk_icmp_le 37 dX12_firstHeavy_30 rfl (fun c4 => ?_) (fun c4 => ?_)
      · have h := zk_it _ h c4
        refine zk_iload_n (i := 1) dX12_firstHeavy_37 rfl rfl ?_
        subst h
        exact zk_weak (zk_leS (zk_leN (zk_leS zk_leE))) Jq3
      · have h := zk_if _ h c4
        refine zk_iload_n (i := 2) dX12_firstHeavy_33 rfl rfl ?_
        refine zk_goto 38 dX12_firstHeavy_34 rfl ?_
        subst h
        exact zk_weak (zk_leS (zk_leN (zk_leS zk_leE))) Jq3
set_option maxRecDepth 100000 in
set_option maxHeartbeats 4000000 in
theorem fMd_firstHeavy_ok {d : Nat} (hd : 0 ≤ d) (mem : zkM) (z : Int32) (h : fMd_firstHeavy mem = some z) : zk_X zSM d zY_X12_firstHeavy [.ref 0] mem (some (.int z), mem) := by
  unfold fMd_firstHeavy at h
  refine zk_meet (n := 2) (lv := [some (.ref 0), none, none]) zpn_X12 rfl (Nat.le_of_ble_eq_true rfl) ?_
  refine zk_bipush dX12_firstHeavy_0 zkb_m9 ?_
  refine zk_istore_n (i := 1) dX12_firstHeavy_2 rfl (Nat.le_of_ble_eq_true rfl) rfl ?_
  refine zk_aload_n (i := 0) dX12_firstHeavy_3 rfl rfl ?_
  refine zk_getI 0 12 2 dX12_firstHeavy_4 zf_X12_77 (Nat.le_of_ble_eq_true rfl) rfl rfl ?_
  refine zk_iconst dX12_firstHeavy_7 zki_1 ?_
  refine zk_isub dX12_firstHeavy_8 ?_
  obtain ⟨v1, ev1, h⟩ := zk_lt h
  refine zk_istore_n' (i := 2) dX12_firstHeavy_9 rfl ev1 (Nat.le_of_ble_eq_true rfl) rfl ?_
  obtain ⟨q2, hq2, h⟩ := zk_ob h
  refine zk_weak (zk_leS (zk_leS (zk_leS zk_leE))) (fMd_firstHeavy_L10_ok hd 500 mem (-9 : Int32) v1 _ hq2 ?_)
  refine zk_iload_n (i := 1) dX12_firstHeavy_45 rfl rfl ?_
  exact zk_ireturn dX12_firstHeavy_46 rfl (zk_rI (Option.some.inj h))
set_option maxRecDepth 100000 in
set_option maxHeartbeats 4000000 in
theorem fMd_firstWeak_L10_ok {d : Nat} {Z : zkZ} (hd : 0 ≤ d)  : ∀ (n : Nat) (mem : zkM) (x1 : Int32) (x2 : Int32) (z : Int32), fMd_firstWeak_L10 n mem x1 x2 = some z → zk_J zSM d zY_X12_firstWeak Z 45 [none, some (.int z), none] [] mem → zk_J zSM d zY_X12_firstWeak Z 10 [some (.ref 0), some (.int x1), some (.int x2)] [] mem := by
  intro n
  induction n with
  | zero => intro mem x1 x2 z h; cases h
  | succ n ih =>
    intro mem x1 x2 z h he
    rw [fMd_firstWeak_L10] at h
    refine zk_iload_n (i := 2) dX12_firstWeak_10 rfl rfl ?_
    refine zk_if_lt 45 dX12_firstWeak_11 rfl (fun c5 => ?_) (fun c5 => ?_)
    · have h := zk_it _ h c5
      cases h
      exact zk_weak (zk_leN (zk_leS (zk_leN zk_leE))) he
    · have h := zk_if _ h c5
      refine zk_aload_n (i := 0) dX12_firstWeak_14 rfl rfl ?_
      refine zk_getR 0 12 29 dX12_firstWeak_15 zf_X12_53 (Nat.le_of_ble_eq_true rfl) rfl rfl ?_
      refine zk_iload_n (i := 2) dX12_firstWeak_18 rfl rfl ?_
      obtain ⟨b1, h⟩ := zk_gd h
      refine zk_iaload 15 8 dX12_firstWeak_19 (Nat.le_of_ble_eq_true rfl) rfl (zk_inb_in b1) ?_
      refine zk_aload_n (i := 0) dX12_firstWeak_20 rfl rfl ?_
      refine zk_getR 0 12 1 dX12_firstWeak_21 zf_X12_7 (Nat.le_of_ble_eq_true rfl) rfl rfl ?_
      refine zk_iconst dX12_firstWeak_24 zki_3 ?_
      refine zk_iload_n (i := 2) dX12_firstWeak_25 rfl rfl ?_
      refine zk_imul dX12_firstWeak_26 ?_
      refine zk_iconst dX12_firstWeak_27 zki_1 ?_
      refine zk_iadd dX12_firstWeak_28 ?_
      obtain ⟨b2, h⟩ := zk_gd h
      refine zk_iaload 1 24 dX12_firstWeak_29 (Nat.le_of_ble_eq_true rfl) rfl (zk_inb_in b2) ?_
      obtain ⟨q3, hq3, h⟩ := zk_lt h
      have Jq3 : zk_J zSM d zY_X12_firstWeak Z 38 [some (.ref 0), none, some (.int x2)] [.int q3] mem := by
        refine zk_istore_n (i := 1) dX12_firstWeak_38 rfl (Nat.le_of_ble_eq_true rfl) rfl ?_
        refine zk_iinc2 dX12_firstWeak_39 rfl zki_m1 (Nat.le_of_ble_eq_true rfl) rfl ?_
        refine zk_goto 10 dX12_firstWeak_42 rfl ?_
        exact zk_weak (zk_leS (zk_leS (zk_leS zk_leE))) (ih mem q3 (x2 + (-1 : Int32)) _ h he)
      have h := hq3
      clear hq3
      refine zk_icmp_le 37 dX12_firstWeak_30 rfl (fun c4 => ?_) (fun c4 => ?_)
      · have h := zk_it _ h c4
        refine zk_iload_n (i := 1) dX12_firstWeak_37 rfl rfl ?_
        subst h
        exact zk_weak (zk_leS (zk_leN (zk_leS zk_leE))) Jq3
      · have h := zk_if _ h c4
        refine zk_iload_n (i := 2) dX12_firstWeak_33 rfl rfl ?_
        refine zk_goto 38 dX12_firstWeak_34 rfl ?_
        subst h
        exact zk_weak (zk_leS (zk_leN (zk_leS zk_leE))) Jq3
set_option maxRecDepth 100000 in
set_option maxHeartbeats 4000000 in
theorem fMd_firstWeak_ok {d : Nat} (hd : 0 ≤ d) (mem : zkM) (z : Int32) (h : fMd_firstWeak mem = some z) : zk_X zSM d zY_X12_firstWeak [.ref 0] mem (some (.int z), mem) := by
  unfold fMd_firstWeak at h
  refine zk_meet (n := 2) (lv := [some (.ref 0), none, none]) zpn_X12 rfl (Nat.le_of_ble_eq_true rfl) ?_
  refine zk_bipush dX12_firstWeak_0 zkb_m9 ?_
  refine zk_istore_n (i := 1) dX12_firstWeak_2 rfl (Nat.le_of_ble_eq_true rfl) rfl ?_
  refine zk_aload_n (i := 0) dX12_firstWeak_3 rfl rfl ?_
  refine zk_getI 0 12 0 dX12_firstWeak_4 zf_X12_69 (Nat.le_of_ble_eq_true rfl) rfl rfl ?_
  refine zk_iconst dX12_firstWeak_7 zki_1 ?_
  refine zk_isub dX12_firstWeak_8 ?_
  obtain ⟨v1, ev1, h⟩ := zk_lt h
  refine zk_istore_n' (i := 2) dX12_firstWeak_9 rfl ev1 (Nat.le_of_ble_eq_true rfl) rfl ?_
  obtain ⟨q2, hq2, h⟩ := zk_ob h
  refine zk_weak (zk_leS (zk_leS (zk_leS zk_leE))) (fMd_firstWeak_L10_ok hd 500 mem (-9 : Int32) v1 _ hq2 ?_)
  refine zk_iload_n (i := 1) dX12_firstWeak_45 rfl rfl ?_
  exact zk_ireturn dX12_firstWeak_46 rfl (zk_rI (Option.some.inj h))
set_option maxRecDepth 100000 in
set_option maxHeartbeats 4000000 in
theorem fMd_firstLost_L10_ok {d : Nat} {Z : zkZ} (hd : 0 ≤ d)  : ∀ (n : Nat) (mem : zkM) (x1 : Int32) (x2 : Int32) (z : Int32), fMd_firstLost_L10 n mem x1 x2 = some z → zk_J zSM d zY_X12_firstLost Z 61 [none, some (.int z), none] [] mem → zk_J zSM d zY_X12_firstLost Z 10 [some (.ref 0), some (.int x1), some (.int x2)] [] mem := by
  intro n
  induction n with
  | zero => intro mem x1 x2 z h; cases h
  | succ n ih =>
    intro mem x1 x2 z h he
    rw [fMd_firstLost_L10] at h
    refine zk_iload_n (i := 2) dX12_firstLost_10 rfl rfl ?_
    refine zk_if_lt 61 dX12_firstLost_11 rfl (fun c7 => ?_) (fun c7 => ?_)
    · have h := zk_it _ h c7
      cases h
      exact zk_weak (zk_leN (zk_leS (zk_leN zk_leE))) he
    · have h := zk_if _ h c7
      refine zk_aload_n (i := 0) dX12_firstLost_14 rfl rfl ?_
      refine zk_getR 0 12 28 dX12_firstLost_15 zf_X12_50 (Nat.le_of_ble_eq_true rfl) rfl rfl ?_
      refine zk_iload_n (i := 2) dX12_firstLost_18 rfl rfl ?_
      obtain ⟨b1, h⟩ := zk_gd h
      refine zk_iaload 14 6 dX12_firstLost_19 (Nat.le_of_ble_eq_true rfl) rfl (zk_inb_in b1) ?_
      obtain ⟨q2, hq2, h⟩ := zk_ob h
      have Jq2 : zk_J zSM d zY_X12_firstLost Z 54 [some (.ref 0), none, some (.int x2)] [.int q2] mem := by
        refine zk_istore_n (i := 1) dX12_firstLost_54 rfl (Nat.le_of_ble_eq_true rfl) rfl ?_
        refine zk_iinc2 dX12_firstLost_55 rfl zki_m1 (Nat.le_of_ble_eq_true rfl) rfl ?_
        refine zk_goto 10 dX12_firstLost_58 rfl ?_
        exact zk_weak (zk_leS (zk_leS (zk_leS zk_leE))) (ih mem q2 (x2 + (-1 : Int32)) _ h he)
      have h := hq2
      clear hq2
      refine zk_if_le 53 dX12_firstLost_20 rfl (fun c6 => ?_) (fun c6 => ?_)
      · have h := zk_it _ h c6
        refine zk_iload_n (i := 1) dX12_firstLost_53 rfl rfl ?_
        cases h
        exact zk_weak (zk_leS (zk_leN (zk_leS zk_leE))) Jq2
      · have h := zk_if _ h c6
        refine zk_aload_n (i := 0) dX12_firstLost_23 rfl rfl ?_
        refine zk_getR 0 12 30 dX12_firstLost_24 zf_X12_56 (Nat.le_of_ble_eq_true rfl) rfl rfl ?_
        refine zk_bipush dX12_firstLost_27 zkb_6 ?_
        refine zk_iload_n (i := 2) dX12_firstLost_29 rfl rfl ?_
        refine zk_imul dX12_firstLost_30 ?_
        refine zk_iconst dX12_firstLost_31 zki_2 ?_
        refine zk_iadd dX12_firstLost_32 ?_
        obtain ⟨b3, h⟩ := zk_gd h
        refine zk_iaload 16 36 dX12_firstLost_33 (Nat.le_of_ble_eq_true rfl) rfl (zk_inb_in b3) ?_
        refine zk_aload_n (i := 0) dX12_firstLost_34 rfl rfl ?_
        refine zk_getR 0 12 30 dX12_firstLost_35 zf_X12_56 (Nat.le_of_ble_eq_true rfl) rfl rfl ?_
        refine zk_bipush dX12_firstLost_38 zkb_6 ?_
        refine zk_iload_n (i := 2) dX12_firstLost_40 rfl rfl ?_
        refine zk_imul dX12_firstLost_41 ?_
        refine zk_iconst dX12_firstLost_42 zki_5 ?_
        refine zk_iadd dX12_firstLost_43 ?_
        obtain ⟨b4, h⟩ := zk_gd h
        refine zk_iaload 16 36 dX12_firstLost_44 (Nat.le_of_ble_eq_true rfl) rfl (zk_inb_in b4) ?_
        refine zk_iadd dX12_firstLost_45 ?_
        refine zk_if_le 53 dX12_firstLost_46 rfl (fun c5 => ?_) (fun c5 => ?_)
        · have h := zk_it _ h c5
          refine zk_iload_n (i := 1) dX12_firstLost_53 rfl rfl ?_
          cases h
          exact zk_weak (zk_leS (zk_leN (zk_leS zk_leE))) Jq2
        · have h := zk_if _ h c5
          refine zk_iload_n (i := 2) dX12_firstLost_49 rfl rfl ?_
          refine zk_goto 54 dX12_firstLost_50 rfl ?_
          cases h
          exact zk_weak (zk_leS (zk_leN (zk_leS zk_leE))) Jq2
set_option maxRecDepth 100000 in
set_option maxHeartbeats 4000000 in
theorem fMd_firstLost_ok {d : Nat} (hd : 0 ≤ d) (mem : zkM) (z : Int32) (h : fMd_firstLost mem = some z) : zk_X zSM d zY_X12_firstLost [.ref 0] mem (some (.int z), mem) := by
  unfold fMd_firstLost at h
  refine zk_meet (n := 2) (lv := [some (.ref 0), none, none]) zpn_X12 rfl (Nat.le_of_ble_eq_true rfl) ?_
  refine zk_bipush dX12_firstLost_0 zkb_m9 ?_
  refine zk_istore_n (i := 1) dX12_firstLost_2 rfl (Nat.le_of_ble_eq_true rfl) rfl ?_
  refine zk_aload_n (i := 0) dX12_firstLost_3 rfl rfl ?_
  refine zk_getI 0 12 2 dX12_firstLost_4 zf_X12_77 (Nat.le_of_ble_eq_true rfl) rfl rfl ?_
  refine zk_iconst dX12_firstLost_7 zki_1 ?_
  refine zk_isub dX12_firstLost_8 ?_
  obtain ⟨v1, ev1, h⟩ := zk_lt h
  refine zk_istore_n' (i := 2) dX12_firstLost_9 rfl ev1 (Nat.le_of_ble_eq_true rfl) rfl ?_
  obtain ⟨q2, hq2, h⟩ := zk_ob h
  refine zk_weak (zk_leS (zk_leS (zk_leS zk_leE))) (fMd_firstLost_L10_ok hd 500 mem (-9 : Int32) v1 _ hq2 ?_)
  refine zk_iload_n (i := 1) dX12_firstLost_61 rfl rfl ?_
  exact zk_ireturn dX12_firstLost_62 rfl (zk_rI (Option.some.inj h))
set_option maxRecDepth 100000 in
set_option maxHeartbeats 4000000 in
theorem fMd_holdsAll_ok {d : Nat} (hd : 1 ≤ d) (mem : zkM) (z : Bool) (h : fMd_holdsAll mem = some z) : zk_X zSM d zY_X12_holdsAll [.ref 0] mem (some (.int (zk_b z)), mem) := by
  unfold fMd_holdsAll at h
  refine zk_meet (n := 0) (lv := [some (.ref 0)]) zpn_X12 rfl (Nat.le_of_ble_eq_true rfl) ?_
  refine zk_aload_n (i := 0) dX12_holdsAll_0 rfl rfl ?_
  obtain ⟨q1, hq1, h⟩ := zk_ob h
  refine zk_callVi zY_X12_firstHeavy 0 12 [] dX12_holdsAll_1 zl_X12_firstHeavy zc_X12_154 zk_ok12 (Nat.le_of_ble_eq_true rfl) rfl (fMd_firstHeavy_ok (d := 0) (Nat.le_refl _) mem  _ hq1) (Nat.lt_of_lt_of_le (by decide) hd) (Nat.le_of_ble_eq_true rfl) ?_
  refine zk_bipush dX12_holdsAll_4 zkb_m9 ?_
  refine zk_icmp_ne 31 dX12_holdsAll_6 rfl (fun c6 => ?_) (fun c6 => ?_)
  · have h := zk_if _ h c6
    refine zk_iconst dX12_holdsAll_31 zki_0 ?_
    exact zk_zreturn dX12_holdsAll_32 rfl rfl (zk_rZ (Option.some.inj h))
  · have h := zk_it _ h c6
    refine zk_aload_n (i := 0) dX12_holdsAll_9 rfl rfl ?_
    obtain ⟨q2, hq2, h⟩ := zk_ob h
    refine zk_callVi zY_X12_firstWeak 0 12 [] dX12_holdsAll_10 zl_X12_firstWeak zc_X12_158 zk_ok12 (Nat.le_of_ble_eq_true rfl) rfl (fMd_firstWeak_ok (d := 0) (Nat.le_refl _) mem  _ hq2) (Nat.lt_of_lt_of_le (by decide) hd) (Nat.le_of_ble_eq_true rfl) ?_
    refine zk_bipush dX12_holdsAll_13 zkb_m9 ?_
    refine zk_icmp_ne 31 dX12_holdsAll_15 rfl (fun c5 => ?_) (fun c5 => ?_)
    · have h := zk_if _ h c5
      refine zk_iconst dX12_holdsAll_31 zki_0 ?_
      exact zk_zreturn dX12_holdsAll_32 rfl rfl (zk_rZ (Option.some.inj h))
    · have h := zk_it _ h c5
      refine zk_aload_n (i := 0) dX12_holdsAll_18 rfl rfl ?_
      obtain ⟨q3, hq3, h⟩ := zk_ob h
      refine zk_callVi zY_X12_firstLost 0 12 [] dX12_holdsAll_19 zl_X12_firstLost zc_X12_161 zk_ok12 (Nat.le_of_ble_eq_true rfl) rfl (fMd_firstLost_ok (d := 0) (Nat.le_refl _) mem  _ hq3) (Nat.lt_of_lt_of_le (by decide) hd) (Nat.le_of_ble_eq_true rfl) ?_
      refine zk_bipush dX12_holdsAll_22 zkb_m9 ?_
      refine zk_icmp_ne 31 dX12_holdsAll_24 rfl (fun c4 => ?_) (fun c4 => ?_)
      · have h := zk_if _ h c4
        refine zk_iconst dX12_holdsAll_31 zki_0 ?_
        exact zk_zreturn dX12_holdsAll_32 rfl rfl (zk_rZ (Option.some.inj h))
      · have h := zk_it _ h c4
        refine zk_iconst dX12_holdsAll_27 zki_1 ?_
        refine zk_goto 32 dX12_holdsAll_28 rfl ?_
        exact zk_zreturn dX12_holdsAll_32 rfl rfl (zk_rZ (Option.some.inj h))
set_option maxRecDepth 100000 in
set_option maxHeartbeats 4000000 in
theorem fMd_now_ok {d : Nat} (hd : 2 ≤ d) (mem : zkM) (a1 : Int32) (z : Int32 × zkM) (h : fMd_now mem a1 = some z) : zk_X zSM d zY_X12_now [.ref 0, .int a1] mem (some (.int z.1), z.2) := by
  unfold fMd_now at h
  refine zk_meet (n := 0) (lv := [some (.ref 0), some (.int a1)]) zpn_X12 rfl (Nat.le_of_ble_eq_true rfl) ?_
  refine zk_iload_n (i := 1) dX12_now_0 rfl rfl ?_
  refine zk_iconst dX12_now_1 zki_0 ?_
  refine zk_iconst dX12_now_2 zki_5 ?_
  refine zk_callSi zY_X12_in [_, _, _] dX12_now_3 zl_X12_in zc_X12_73 (fMd_in_ok (d := 0) (Nat.le_refl _) mem _ _ _ _ rfl) (Nat.lt_of_lt_of_le (by decide) hd) (Nat.le_of_ble_eq_true rfl) ?_
  refine zk_if_ne 11 dX12_now_6 rfl (fun c13 => ?_) (fun c13 => ?_)
  · have h := zk_if _ h c13
    refine zk_aload_n (i := 0) dX12_now_11 rfl rfl ?_
    obtain ⟨q1, hq1, h⟩ := zk_ob h
    refine zk_callVv zY_X12_layLoadsNow 0 12 [] dX12_now_12 zl_X12_layLoadsNow zc_X12_182 zk_ok12 (Nat.le_of_ble_eq_true rfl) rfl (fMd_layLoadsNow_ok (d := 1) (Nat.le_refl _) mem  _ hq1) (Nat.lt_of_lt_of_le (by decide) hd) (Nat.le_of_ble_eq_true rfl) ?_
    refine zk_aload_n (i := 0) dX12_now_15 rfl rfl ?_
    obtain ⟨q2, hq2, h⟩ := zk_ob h
    refine zk_callVv zY_X12_layEnds 0 12 [] dX12_now_16 zl_X12_layEnds zc_X12_195 zk_ok12 (Nat.le_of_ble_eq_true rfl) rfl (fMd_layEnds_ok (d := 0) (Nat.le_refl _) q1  _ hq2) (Nat.lt_of_lt_of_le (by decide) hd) (Nat.le_of_ble_eq_true rfl) ?_
    refine zk_iload_n (i := 1) dX12_now_19 rfl rfl ?_
    rcases Decidable.em (a1 = (0 : Int32)) with c3 | c3
    · have h := zk_it _ h c3
      refine zk_tin (off := 36) 56 dX12_now_20 c3 (by decide) (by decide) (by decide) rfl ?_
      refine zk_aload_n (i := 0) dX12_now_56 rfl rfl ?_
      obtain ⟨q4, hq4, h⟩ := zk_ob h
      refine zk_callVi zY_X12_holdsAll 0 12 [] dX12_now_57 zl_X12_holdsAll zc_X12_198 zk_ok12 (Nat.le_of_ble_eq_true rfl) rfl (fMd_holdsAll_ok (d := 1) (Nat.le_refl _) q2  _ hq4) (Nat.lt_of_lt_of_le (by decide) hd) (Nat.le_of_ble_eq_true rfl) ?_
      refine zk_if_eq 67 dX12_now_60 rfl (fun c5 => ?_) (fun c5 => ?_)
      · have h := zk_it _ h c5
        refine zk_iconst dX12_now_67 zki_0 ?_
        exact zk_ireturn dX12_now_68 rfl (zk_rIw (Option.some.inj h))
      · have h := zk_if _ h c5
        refine zk_iconst dX12_now_63 zki_1 ?_
        refine zk_goto 68 dX12_now_64 rfl ?_
        exact zk_ireturn dX12_now_68 rfl (zk_rIw (Option.some.inj h))
    · have h := zk_if _ h c3
      rcases Decidable.em (a1 = (1 : Int32)) with c6 | c6
      · have h := zk_it _ h c6
        refine zk_tin (off := 49) 69 dX12_now_20 c6 (by decide) (by decide) (by decide) rfl ?_
        refine zk_aload_n (i := 0) dX12_now_69 rfl rfl ?_
        obtain ⟨q7, hq7, h⟩ := zk_ob h
        refine zk_callVi zY_X12_firstHeavy 0 12 [] dX12_now_70 zl_X12_firstHeavy zc_X12_154 zk_ok12 (Nat.le_of_ble_eq_true rfl) rfl (fMd_firstHeavy_ok (d := 0) (Nat.le_refl _) q2  _ hq7) (Nat.lt_of_lt_of_le (by decide) hd) (Nat.le_of_ble_eq_true rfl) ?_
        exact zk_ireturn dX12_now_73 rfl (zk_rIw (Option.some.inj h))
      · have h := zk_if _ h c6
        rcases Decidable.em (a1 = (2 : Int32)) with c8 | c8
        · have h := zk_it _ h c8
          refine zk_tin (off := 54) 74 dX12_now_20 c8 (by decide) (by decide) (by decide) rfl ?_
          refine zk_aload_n (i := 0) dX12_now_74 rfl rfl ?_
          obtain ⟨q9, hq9, h⟩ := zk_ob h
          refine zk_callVi zY_X12_firstWeak 0 12 [] dX12_now_75 zl_X12_firstWeak zc_X12_158 zk_ok12 (Nat.le_of_ble_eq_true rfl) rfl (fMd_firstWeak_ok (d := 0) (Nat.le_refl _) q2  _ hq9) (Nat.lt_of_lt_of_le (by decide) hd) (Nat.le_of_ble_eq_true rfl) ?_
          exact zk_ireturn dX12_now_78 rfl (zk_rIw (Option.some.inj h))
        · have h := zk_if _ h c8
          rcases Decidable.em (a1 = (3 : Int32)) with c10 | c10
          · have h := zk_it _ h c10
            refine zk_tin (off := 59) 79 dX12_now_20 c10 (by decide) (by decide) (by decide) rfl ?_
            refine zk_aload_n (i := 0) dX12_now_79 rfl rfl ?_
            obtain ⟨q11, hq11, h⟩ := zk_ob h
            refine zk_callVi zY_X12_firstLost 0 12 [] dX12_now_80 zl_X12_firstLost zc_X12_161 zk_ok12 (Nat.le_of_ble_eq_true rfl) rfl (fMd_firstLost_ok (d := 0) (Nat.le_refl _) q2  _ hq11) (Nat.lt_of_lt_of_le (by decide) hd) (Nat.le_of_ble_eq_true rfl) ?_
            exact zk_ireturn dX12_now_83 rfl (zk_rIw (Option.some.inj h))
          · have h := zk_if _ h c10
            rcases Decidable.em (a1 = (4 : Int32)) with c12 | c12
            · have h := zk_it _ h c12
              refine zk_tin (off := 64) 84 dX12_now_20 c12 (by decide) (by decide) (by decide) rfl ?_
              refine zk_aload_n (i := 0) dX12_now_84 rfl rfl ?_
              refine zk_getR 0 12 6 dX12_now_85 zf_X12_19 (Nat.le_of_ble_eq_true rfl) rfl rfl ?_
              refine zk_iconst dX12_now_88 zki_0 ?_
              refine zk_iaload 4 42 dX12_now_89 (Nat.le_of_ble_eq_true rfl) rfl (zk_inb_in (by decide)) ?_
              exact zk_ireturn dX12_now_90 rfl (zk_rIw (Option.some.inj h))
            · have h := zk_if _ h c12
              have hout : (a1).toInt < 0 ∨ 4 < (a1).toInt := by
                have := lv_neT c3 (a := 0) (by decide)
                have := lv_neT c6 (a := 1) (by decide)
                have := lv_neT c8 (a := 2) (by decide)
                have := lv_neT c10 (a := 3) (by decide)
                have := lv_neT c12 (a := 4) (by decide)
                omega
              refine zk_tout 91 dX12_now_20 hout rfl ?_
              refine zk_aload_n (i := 0) dX12_now_91 rfl rfl ?_
              refine zk_getI 0 12 8 dX12_now_92 zf_X12_142 (Nat.le_of_ble_eq_true rfl) rfl rfl ?_
              exact zk_ireturn dX12_now_95 rfl (zk_rIw (Option.some.inj h))
  · have h := zk_it _ h c13
    refine zk_iconst dX12_now_9 zki_m1 ?_
    exact zk_ireturn dX12_now_10 rfl (zk_rIw (Option.some.inj h))
set_option maxRecDepth 100000 in
set_option maxHeartbeats 4000000 in
theorem fMd_remembers_L11_ok {d : Nat} {Z : zkZ} (hd : 0 ≤ d)  : ∀ (n : Nat) (mem : zkM) (x1 : Int32) (z : zkM), fMd_remembers_L11 n mem x1 = some z → zk_J zSM d zY_X12_remembers Z 39 [some (.ref 0), none] [] z → zk_J zSM d zY_X12_remembers Z 11 [some (.ref 0), some (.int x1)] [] mem := by
  intro n
  induction n with
  | zero => intro mem x1 z h; cases h
  | succ n ih =>
    intro mem x1 z h he
    rw [fMd_remembers_L11] at h
    refine zk_iload_n (i := 1) dX12_remembers_11 rfl rfl ?_
    refine zk_sipush dX12_remembers_12 zks_378 ?_
    refine zk_icmp_ge 39 dX12_remembers_15 rfl (fun c4 => ?_) (fun c4 => ?_)
    · have h := zk_it _ h c4
      cases h
      exact zk_weak (zk_leS (zk_leN zk_leE)) he
    · have h := zk_if _ h c4
      refine zk_aload_n (i := 0) dX12_remembers_18 rfl rfl ?_
      refine zk_getR 0 12 7 dX12_remembers_19 zf_X12_22 (Nat.le_of_ble_eq_true rfl) rfl rfl ?_
      refine zk_iload_n (i := 1) dX12_remembers_22 rfl rfl ?_
      refine zk_aload_n (i := 0) dX12_remembers_23 rfl rfl ?_
      refine zk_getR 0 12 7 dX12_remembers_24 zf_X12_22 (Nat.le_of_ble_eq_true rfl) rfl rfl ?_
      refine zk_iload_n (i := 1) dX12_remembers_27 rfl rfl ?_
      refine zk_bipush dX12_remembers_28 zkb_42 ?_
      refine zk_iadd dX12_remembers_30 ?_
      obtain ⟨b1, h⟩ := zk_gd h
      refine zk_iaload 5 420 dX12_remembers_31 (Nat.le_of_ble_eq_true rfl) rfl (zk_inb_in b1) ?_
      obtain ⟨b2, h⟩ := zk_gd h
      obtain ⟨m3, em3, h⟩ := zk_lt h
      refine zk_iastore' 5 420 dX12_remembers_32 (Nat.le_of_ble_eq_true rfl) rfl (zk_inb_in b2) em3 ?_
      refine zk_iinc2 dX12_remembers_33 rfl zki_1 (Nat.le_of_ble_eq_true rfl) rfl ?_
      refine zk_goto 11 dX12_remembers_36 rfl ?_
      exact zk_weak (zk_leS (zk_leS zk_leE)) (ih m3 (x1 + (1 : Int32)) _ h he)
set_option maxRecDepth 100000 in
set_option maxHeartbeats 4000000 in
theorem fMd_remembers_L51_ok {d : Nat} {Z : zkZ} (hd : 0 ≤ d)  : ∀ (n : Nat) (mem : zkM) (x1 : Int32) (z : zkM), fMd_remembers_L51 n mem x1 = some z → zk_J zSM d zY_X12_remembers Z 83 [some (.ref 0), none] [] z → zk_J zSM d zY_X12_remembers Z 51 [some (.ref 0), some (.int x1)] [] mem := by
  intro n
  induction n with
  | zero => intro mem x1 z h; cases h
  | succ n ih =>
    intro mem x1 z h he
    rw [fMd_remembers_L51] at h
    refine zk_iload_n (i := 1) dX12_remembers_51 rfl rfl ?_
    refine zk_bipush dX12_remembers_52 zkb_42 ?_
    refine zk_icmp_ge 83 dX12_remembers_54 rfl (fun c4 => ?_) (fun c4 => ?_)
    · have h := zk_it _ h c4
      cases h
      exact zk_weak (zk_leS (zk_leN zk_leE)) he
    · have h := zk_if _ h c4
      refine zk_aload_n (i := 0) dX12_remembers_57 rfl rfl ?_
      refine zk_getR 0 12 7 dX12_remembers_58 zf_X12_22 (Nat.le_of_ble_eq_true rfl) rfl rfl ?_
      refine zk_bipush dX12_remembers_61 zkb_42 ?_
      refine zk_aload_n (i := 0) dX12_remembers_63 rfl rfl ?_
      refine zk_getI 0 12 8 dX12_remembers_64 zf_X12_142 (Nat.le_of_ble_eq_true rfl) rfl rfl ?_
      refine zk_imul dX12_remembers_67 ?_
      refine zk_iload_n (i := 1) dX12_remembers_68 rfl rfl ?_
      refine zk_iadd dX12_remembers_69 ?_
      refine zk_aload_n (i := 0) dX12_remembers_70 rfl rfl ?_
      refine zk_getR 0 12 6 dX12_remembers_71 zf_X12_19 (Nat.le_of_ble_eq_true rfl) rfl rfl ?_
      refine zk_iload_n (i := 1) dX12_remembers_74 rfl rfl ?_
      obtain ⟨b1, h⟩ := zk_gd h
      refine zk_iaload 4 42 dX12_remembers_75 (Nat.le_of_ble_eq_true rfl) rfl (zk_inb_in b1) ?_
      obtain ⟨b2, h⟩ := zk_gd h
      obtain ⟨m3, em3, h⟩ := zk_lt h
      refine zk_iastore' 5 420 dX12_remembers_76 (Nat.le_of_ble_eq_true rfl) rfl (zk_inb_in b2) em3 ?_
      refine zk_iinc2 dX12_remembers_77 rfl zki_1 (Nat.le_of_ble_eq_true rfl) rfl ?_
      refine zk_goto 51 dX12_remembers_80 rfl ?_
      exact zk_weak (zk_leS (zk_leS zk_leE)) (ih m3 (x1 + (1 : Int32)) _ h he)
set_option maxRecDepth 100000 in
set_option maxHeartbeats 4000000 in
theorem fMd_remembers_ok {d : Nat} (hd : 0 ≤ d) (mem : zkM) (z : zkM) (h : fMd_remembers mem = some z) : zk_X zSM d zY_X12_remembers [.ref 0] mem (none, z) := by
  unfold fMd_remembers at h
  refine zk_meet (n := 1) (lv := [some (.ref 0), none]) zpn_X12 rfl (Nat.le_of_ble_eq_true rfl) ?_
  refine zk_aload_n (i := 0) dX12_remembers_0 rfl rfl ?_
  refine zk_getI 0 12 8 dX12_remembers_1 zf_X12_142 (Nat.le_of_ble_eq_true rfl) rfl rfl ?_
  refine zk_bipush dX12_remembers_4 zkb_10 ?_
  obtain ⟨q1, hq1, h⟩ := zk_ob h
  have Jq1 : zk_J zSM d zY_X12_remembers (zk_R zSM (none, z)) 49 [some (.ref 0), none] [] q1 := by
    refine zk_iconst dX12_remembers_49 zki_0 ?_
    refine zk_istore_n (i := 1) dX12_remembers_50 rfl (Nat.le_of_ble_eq_true rfl) rfl ?_
    obtain ⟨q5, hq5, h⟩ := zk_ob h
    refine zk_weak (zk_leS (zk_leS zk_leE)) (fMd_remembers_L51_ok hd 500 q1 (0 : Int32) _ hq5 ?_)
    refine zk_aload_n (i := 0) dX12_remembers_83 rfl rfl ?_
    refine zk_dup dX12_remembers_84 rfl ?_
    refine zk_getI 0 12 8 dX12_remembers_85 zf_X12_142 (Nat.le_of_ble_eq_true rfl) rfl rfl ?_
    refine zk_iconst dX12_remembers_88 zki_1 ?_
    refine zk_iadd dX12_remembers_89 ?_
    obtain ⟨m6, em6, h⟩ := zk_lt h
    refine zk_putI' 0 12 8 dX12_remembers_90 zp_X12_142 (Nat.le_of_ble_eq_true rfl) rfl rfl em6 ?_
    exact zk_vreturn dX12_remembers_93 rfl (zk_rVw (Option.some.inj h))
  have h := hq1
  clear hq1
  refine zk_icmp_ne 49 dX12_remembers_6 rfl (fun c4 => ?_) (fun c4 => ?_)
  · have h := zk_if _ h c4
    cases h
    exact zk_weak (zk_leS (zk_leN zk_leE)) Jq1
  · have h := zk_it _ h c4
    refine zk_iconst dX12_remembers_9 zki_0 ?_
    refine zk_istore_n (i := 1) dX12_remembers_10 rfl (Nat.le_of_ble_eq_true rfl) rfl ?_
    obtain ⟨q2, hq2, h⟩ := zk_ob h
    refine zk_weak (zk_leS (zk_leS zk_leE)) (fMd_remembers_L11_ok hd 500 mem (0 : Int32) _ hq2 ?_)
    refine zk_aload_n (i := 0) dX12_remembers_39 rfl rfl ?_
    refine zk_dup dX12_remembers_40 rfl ?_
    refine zk_getI 0 12 8 dX12_remembers_41 zf_X12_142 (Nat.le_of_ble_eq_true rfl) rfl rfl ?_
    refine zk_iconst dX12_remembers_44 zki_1 ?_
    refine zk_isub dX12_remembers_45 ?_
    obtain ⟨m3, em3, h⟩ := zk_lt h
    refine zk_putI' 0 12 8 dX12_remembers_46 zp_X12_142 (Nat.le_of_ble_eq_true rfl) rfl rfl em3 ?_
    cases h
    exact zk_weak (zk_leS (zk_leN zk_leE)) Jq1
set_option maxRecDepth 100000 in
set_option maxHeartbeats 4000000 in
theorem fMd_stands_ok {d : Nat} (hd : 2 ≤ d) (mem : zkM) (a1 : Int32) (a2 : Int32) (z : Int32 × zkM) (h : fMd_stands mem a1 a2 = some z) : zk_X zSM d zY_X12_stands [.ref 0, .int a1, .int a2] mem (some (.int z.1), z.2) := by
  unfold fMd_stands at h
  refine zk_meet (n := 1) (lv := [some (.ref 0), some (.int a1), some (.int a2), none]) zpn_X12 rfl (Nat.le_of_ble_eq_true rfl) ?_
  refine zk_aload_n (i := 0) dX12_stands_0 rfl rfl ?_
  refine zk_iload_n (i := 1) dX12_stands_1 rfl rfl ?_
  refine zk_callVi zY_X12_isChild 0 12 [_] dX12_stands_2 zl_X12_isChild zc_X12_192 zk_ok12 (Nat.le_of_ble_eq_true rfl) rfl (fMd_isChild_ok (d := 1) (Nat.le_refl _) mem _ _ rfl) (Nat.lt_of_lt_of_le (by decide) hd) (Nat.le_of_ble_eq_true rfl) ?_
  refine zk_if_eq 22 dX12_stands_5 rfl (fun c13 => ?_) (fun c13 => ?_)
  · have h := zk_it _ h c13
    refine zk_iconst dX12_stands_22 zki_m1 ?_
    exact zk_ireturn dX12_stands_23 rfl (zk_rIw (Option.some.inj h))
  · have h := zk_if _ h c13
    refine zk_iload_n (i := 2) dX12_stands_8 rfl rfl ?_
    refine zk_bipush dX12_stands_9 zkb_m9 ?_
    refine zk_icmp_eq 24 dX12_stands_11 rfl (fun c12 => ?_) (fun c12 => ?_)
    · have h := zk_it _ h c12
      refine zk_aload_n (i := 0) dX12_stands_24 rfl rfl ?_
      obtain ⟨q1, hq1, h⟩ := zk_ob h
      refine zk_callVv zY_X12_remembers 0 12 [] dX12_stands_25 zl_X12_remembers zc_X12_202 zk_ok12 (Nat.le_of_ble_eq_true rfl) rfl (fMd_remembers_ok (d := 0) (Nat.le_refl _) mem  _ hq1) (Nat.lt_of_lt_of_le (by decide) hd) (Nat.le_of_ble_eq_true rfl) ?_
      refine zk_aload_n (i := 0) dX12_stands_28 rfl rfl ?_
      refine zk_getR 0 12 6 dX12_stands_29 zf_X12_19 (Nat.le_of_ble_eq_true rfl) rfl rfl ?_
      refine zk_iconst dX12_stands_32 zki_1 ?_
      refine zk_iload_n (i := 1) dX12_stands_33 rfl rfl ?_
      refine zk_iadd dX12_stands_34 ?_
      obtain ⟨b2, h⟩ := zk_gd h
      refine zk_iaload 4 42 dX12_stands_35 (Nat.le_of_ble_eq_true rfl) rfl (zk_inb_in b2) ?_
      obtain ⟨v3, ev3, h⟩ := zk_lt h
      refine zk_istore_n' (i := 3) dX12_stands_36 rfl ev3 (Nat.le_of_ble_eq_true rfl) rfl ?_
      refine zk_aload_n (i := 0) dX12_stands_37 rfl rfl ?_
      refine zk_getR 0 12 6 dX12_stands_38 zf_X12_19 (Nat.le_of_ble_eq_true rfl) rfl rfl ?_
      refine zk_iconst dX12_stands_41 zki_1 ?_
      refine zk_iload_n (i := 1) dX12_stands_42 rfl rfl ?_
      refine zk_iadd dX12_stands_43 ?_
      refine zk_iload_n (i := 2) dX12_stands_44 rfl rfl ?_
      obtain ⟨b4, h⟩ := zk_gd h
      obtain ⟨m5, em5, h⟩ := zk_lt h
      refine zk_iastore' 4 42 dX12_stands_45 (Nat.le_of_ble_eq_true rfl) rfl (zk_inb_in b4) em5 ?_
      refine zk_iload_n (i := 3) dX12_stands_46 rfl rfl ?_
      exact zk_ireturn dX12_stands_47 rfl (zk_rIw (Option.some.inj h))
    · have h := zk_if _ h c12
      refine zk_aload_n (i := 0) dX12_stands_14 rfl rfl ?_
      refine zk_iload_n (i := 2) dX12_stands_15 rfl rfl ?_
      refine zk_callVi zY_X12_isPlank 0 12 [_] dX12_stands_16 zl_X12_isPlank zc_X12_185 zk_ok12 (Nat.le_of_ble_eq_true rfl) rfl (fMd_isPlank_ok (d := 1) (Nat.le_refl _) mem _ _ rfl) (Nat.lt_of_lt_of_le (by decide) hd) (Nat.le_of_ble_eq_true rfl) ?_
      refine zk_if_ne 24 dX12_stands_19 rfl (fun c11 => ?_) (fun c11 => ?_)
      · have h := zk_if _ h c11
        refine zk_aload_n (i := 0) dX12_stands_24 rfl rfl ?_
        obtain ⟨q6, hq6, h⟩ := zk_ob h
        refine zk_callVv zY_X12_remembers 0 12 [] dX12_stands_25 zl_X12_remembers zc_X12_202 zk_ok12 (Nat.le_of_ble_eq_true rfl) rfl (fMd_remembers_ok (d := 0) (Nat.le_refl _) mem  _ hq6) (Nat.lt_of_lt_of_le (by decide) hd) (Nat.le_of_ble_eq_true rfl) ?_
        refine zk_aload_n (i := 0) dX12_stands_28 rfl rfl ?_
        refine zk_getR 0 12 6 dX12_stands_29 zf_X12_19 (Nat.le_of_ble_eq_true rfl) rfl rfl ?_
        refine zk_iconst dX12_stands_32 zki_1 ?_
        refine zk_iload_n (i := 1) dX12_stands_33 rfl rfl ?_
        refine zk_iadd dX12_stands_34 ?_
        obtain ⟨b7, h⟩ := zk_gd h
        refine zk_iaload 4 42 dX12_stands_35 (Nat.le_of_ble_eq_true rfl) rfl (zk_inb_in b7) ?_
        obtain ⟨v8, ev8, h⟩ := zk_lt h
        refine zk_istore_n' (i := 3) dX12_stands_36 rfl ev8 (Nat.le_of_ble_eq_true rfl) rfl ?_
        refine zk_aload_n (i := 0) dX12_stands_37 rfl rfl ?_
        refine zk_getR 0 12 6 dX12_stands_38 zf_X12_19 (Nat.le_of_ble_eq_true rfl) rfl rfl ?_
        refine zk_iconst dX12_stands_41 zki_1 ?_
        refine zk_iload_n (i := 1) dX12_stands_42 rfl rfl ?_
        refine zk_iadd dX12_stands_43 ?_
        refine zk_iload_n (i := 2) dX12_stands_44 rfl rfl ?_
        obtain ⟨b9, h⟩ := zk_gd h
        obtain ⟨m10, em10, h⟩ := zk_lt h
        refine zk_iastore' 4 42 dX12_stands_45 (Nat.le_of_ble_eq_true rfl) rfl (zk_inb_in b9) em10 ?_
        refine zk_iload_n (i := 3) dX12_stands_46 rfl rfl ?_
        exact zk_ireturn dX12_stands_47 rfl (zk_rIw (Option.some.inj h))
      · have h := zk_it _ h c11
        refine zk_iconst dX12_stands_22 zki_m1 ?_
        exact zk_ireturn dX12_stands_23 rfl (zk_rIw (Option.some.inj h))
set_option maxRecDepth 100000 in
set_option maxHeartbeats 4000000 in
theorem fMd_isForce_ok {d : Nat} (hd : 1 ≤ d) (mem : zkM) (a0 : Int32) (z : Bool) (h : fMd_isForce a0 = z) : zk_X zSM d zY_X12_isForce [.int a0] mem (some (.int (zk_b z)), mem) := by
  unfold fMd_isForce at h
  refine zk_meet (n := 0) (lv := [some (.int a0)]) zpn_X12 rfl (Nat.le_of_ble_eq_true rfl) ?_
  refine zk_iload_n (i := 0) dX12_isForce_0 rfl rfl ?_
  refine zk_iconst dX12_isForce_1 zki_1 ?_
  refine zk_bipush dX12_isForce_2 zkb_9 ?_
  refine zk_callSi zY_X12_in [_, _, _] dX12_isForce_4 zl_X12_in zc_X12_73 (fMd_in_ok (d := 0) (Nat.le_refl _) mem _ _ _ _ rfl) (Nat.lt_of_lt_of_le (by decide) hd) (Nat.le_of_ble_eq_true rfl) ?_
  exact zk_zreturn dX12_isForce_7 rfl (zk_nb _) (zk_rZ h)
set_option maxRecDepth 100000 in
set_option maxHeartbeats 4000000 in
theorem fMd_differ_ok {d : Nat} (hd : 0 ≤ d) (mem : zkM) (a1 : Int32) (z : Int32) (h : fMd_differ mem a1 = some z) : zk_X zSM d zY_X12_differ [.ref 0, .int a1] mem (some (.int z), mem) := by
  unfold fMd_differ at h
  refine zk_meet (n := 2) (lv := [some (.ref 0), some (.int a1), none, none]) zpn_X12 rfl (Nat.le_of_ble_eq_true rfl) ?_
  refine zk_iload_n (i := 1) dX12_differ_0 rfl rfl ?_
  refine zk_iconst dX12_differ_1 zki_2 ?_
  refine zk_idiv dX12_differ_2 (by decide) ?_
  obtain ⟨v1, ev1, h⟩ := zk_lt h
  refine zk_istore_n' (i := 2) dX12_differ_3 rfl ev1 (Nat.le_of_ble_eq_true rfl) rfl ?_
  refine zk_aload_n (i := 0) dX12_differ_4 rfl rfl ?_
  refine zk_getR 0 12 1 dX12_differ_5 zf_X12_7 (Nat.le_of_ble_eq_true rfl) rfl rfl ?_
  refine zk_iconst dX12_differ_8 zki_3 ?_
  refine zk_aload_n (i := 0) dX12_differ_9 rfl rfl ?_
  refine zk_getR 0 12 3 dX12_differ_10 zf_X12_13 (Nat.le_of_ble_eq_true rfl) rfl rfl ?_
  refine zk_iconst dX12_differ_13 zki_3 ?_
  refine zk_iload_n (i := 2) dX12_differ_14 rfl rfl ?_
  refine zk_imul dX12_differ_15 ?_
  obtain ⟨b2, h⟩ := zk_gd h
  refine zk_iaload 2 18 dX12_differ_16 (Nat.le_of_ble_eq_true rfl) rfl (zk_inb_in b2) ?_
  refine zk_imul dX12_differ_17 ?_
  refine zk_iconst dX12_differ_18 zki_2 ?_
  refine zk_iadd dX12_differ_19 ?_
  obtain ⟨b3, h⟩ := zk_gd h
  refine zk_iaload 1 24 dX12_differ_20 (Nat.le_of_ble_eq_true rfl) rfl (zk_inb_in b3) ?_
  refine zk_aload_n (i := 0) dX12_differ_21 rfl rfl ?_
  refine zk_getR 0 12 1 dX12_differ_22 zf_X12_7 (Nat.le_of_ble_eq_true rfl) rfl rfl ?_
  refine zk_iconst dX12_differ_25 zki_3 ?_
  refine zk_aload_n (i := 0) dX12_differ_26 rfl rfl ?_
  refine zk_getR 0 12 3 dX12_differ_27 zf_X12_13 (Nat.le_of_ble_eq_true rfl) rfl rfl ?_
  refine zk_iconst dX12_differ_30 zki_3 ?_
  refine zk_iload_n (i := 2) dX12_differ_31 rfl rfl ?_
  refine zk_imul dX12_differ_32 ?_
  refine zk_iconst dX12_differ_33 zki_1 ?_
  refine zk_iadd dX12_differ_34 ?_
  obtain ⟨b4, h⟩ := zk_gd h
  refine zk_iaload 2 18 dX12_differ_35 (Nat.le_of_ble_eq_true rfl) rfl (zk_inb_in b4) ?_
  refine zk_imul dX12_differ_36 ?_
  refine zk_iconst dX12_differ_37 zki_2 ?_
  refine zk_iadd dX12_differ_38 ?_
  obtain ⟨b5, h⟩ := zk_gd h
  refine zk_iaload 1 24 dX12_differ_39 (Nat.le_of_ble_eq_true rfl) rfl (zk_inb_in b5) ?_
  refine zk_isub dX12_differ_40 ?_
  obtain ⟨v6, ev6, h⟩ := zk_lt h
  refine zk_istore_n' (i := 3) dX12_differ_41 rfl ev6 (Nat.le_of_ble_eq_true rfl) rfl ?_
  refine zk_iload_n (i := 3) dX12_differ_42 rfl rfl ?_
  refine zk_if_ge 51 dX12_differ_43 rfl (fun c7 => ?_) (fun c7 => ?_)
  · have h := zk_it _ h c7
    refine zk_iload_n (i := 3) dX12_differ_51 rfl rfl ?_
    exact zk_ireturn dX12_differ_52 rfl (zk_rI (Option.some.inj h))
  · have h := zk_if _ h c7
    refine zk_iload_n (i := 3) dX12_differ_46 rfl rfl ?_
    refine zk_ineg dX12_differ_47 ?_
    refine zk_goto 52 dX12_differ_48 rfl ?_
    exact zk_ireturn dX12_differ_52 rfl (zk_rI (Option.some.inj h))
