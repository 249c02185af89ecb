/-! one number more; BOUGHS and CHILDREN -/
theorem mk_2 {tk : Nat} (h : jN (mk tk) = jN 2) (ht : tk = 0 ∨ tk = 1 ∨ tk = 2 ∨ tk = 59 ∨ tk = 98 ∨ tk = 99 ∨ tk = 112) : tk = 1 := by
  rcases ht with h9 | h9 | h9 | h9 | h9 | h9 | h9
  · subst h9; revert h; decide
  · exact h9
  · subst h9; revert h; decide
  · subst h9; revert h; decide
  · subst h9; revert h; decide
  · subst h9; revert h; decide
  · subst h9; revert h; decide
theorem mk_3 {tk : Nat} (h : jN (mk tk) = jN 3) (ht : tk = 0 ∨ tk = 1 ∨ tk = 2 ∨ tk = 59 ∨ tk = 98 ∨ tk = 99 ∨ tk = 112) : tk = 59 := by
  rcases ht with h9 | h9 | h9 | h9 | h9 | h9 | h9
  · subst h9; revert h; decide
  · subst h9; revert h; decide
  · subst h9; revert h; decide
  · exact h9
  · subst h9; revert h; decide
  · subst h9; revert h; decide
  · subst h9; revert h; decide
theorem num10 {L : Nat → Nat} {N s tk v i k : Nat} {T : Nat → Nat → Nat} {y z mem zem : zkM} {lo hi : Int32} (ht : Tx L N y z) (P : Ph L N T y z mem zem s tk v) (htk : tk = 1) (hin : fMd_in (jN v) lo hi = true) (hk : k < 24) (hk2 : 3 * T 0 0 ≤ k) : ∃ mem' zem' s' tk' v', fScript_step (zk_u mem 3 i (jN v)) = some mem' ∧ fMd_readInto_10 zem (jN k) lo hi = some (jN v, zem') ∧ Ph L N T y z mem' zem' s' tk' v' ∧ mem'.1 3 i = jN v ∧ (∀ j, j ≠ i → mem'.1 3 j = mem.1 3 j) ∧ zem'.1 10 k = jN v ∧ (∀ j, j ≠ k → zem'.1 10 j = zem.1 10 j) := by
  obtain ⟨hc, hm, hX, hM, h20, ⟨e, he, h2, h16⟩, h3, h4, h5, h17, h18, h19, h19', hsN, htks, hv⟩ := P
  obtain ⟨r, t, s', tk', v', f1, g1, P', hr⟩ := adv (T := T) (mem := zk_u mem 3 i (jN v)) ht (hc.u (by omega)) hm (hX.congr (fun k hk => zk_u_off (by omega))) hM h20 he (by rw [zk_u_off (by omega)]; exact h2) h16
  obtain ⟨hc', hm', hX', hM', h20', hCu'⟩ := P'
  refine ⟨zk_row (zk_u mem 3 i (jN v)) 1 r, zk_u (zk_row zem 0 t) 10 k (jN v), s', tk', v', f1, ?_, ⟨hc', hm'.u (by omega), hX', hM'.p10 hk2, by rw [zk_u_off (by omega)]; exact h20', ?_⟩, ?_, fun j hj => ?_, ?_, fun j hj => ?_⟩
  · exact rT10 h20 (by rw [h18, htk]; rfl) (h19 htk) hin g1 h20' hk
  · unfold Cu at hCu' ⊢
    rw [zk_u_off (show (0 : Nat) ≠ 10 by omega)]
    exact hCu'
  · rw [zk_row_off (by omega), zk_u_at]
  · rw [zk_row_off (by omega), zk_u_ne hj]
  · rw [zk_u_at]
  · rw [zk_u_ne hj, zk_row_off (by omega)]
theorem numF10 {L : Nat → Nat} {N s tk v : Nat} {k : Int32} {T : Nat → Nat → Nat} {y z mem zem : zkM} {lo hi : Int32} (P : Ph L N T y z mem zem s tk v) (h : tk = 1 → fMd_in (jN v) lo hi = false) : fMd_readInto_10 zem k lo hi = some (zem.1 0 19, zk_u zem 0 20 (jN 1)) := by
  obtain ⟨hc, hm, hX, hM, h20, -, h3, h4, h5, h17, h18, h19, h19', hsN, htks, hv⟩ := P
  apply rF10 h20
  rintro ⟨a, b⟩
  rw [h18] at a
  have := mk_2 a htks
  rw [h19 this, h this] at b
  cases b
theorem num11 {L : Nat → Nat} {N s tk v i k : Nat} {T : Nat → Nat → Nat} {y z mem zem : zkM} {lo hi : Int32} (ht : Tx L N y z) (P : Ph L N T y z mem zem s tk v) (htk : tk = 1) (hin : fMd_in (jN v) lo hi = true) (hk : k < 30) (hk2 : 5 * T 0 1 ≤ k) : ∃ mem' zem' s' tk' v', fScript_step (zk_u mem 3 i (jN v)) = some mem' ∧ fMd_readInto_11 zem (jN k) lo hi = some (jN v, zem') ∧ Ph L N T y z mem' zem' s' tk' v' ∧ mem'.1 3 i = jN v ∧ (∀ j, j ≠ i → mem'.1 3 j = mem.1 3 j) ∧ zem'.1 11 k = jN v ∧ (∀ j, j ≠ k → zem'.1 11 j = zem.1 11 j) := by
  obtain ⟨hc, hm, hX, hM, h20, ⟨e, he, h2, h16⟩, h3, h4, h5, h17, h18, h19, h19', hsN, htks, hv⟩ := P
  obtain ⟨r, t, s', tk', v', f1, g1, P', hr⟩ := adv (T := T) (mem := zk_u mem 3 i (jN v)) ht (hc.u (by omega)) hm (hX.congr (fun k hk => zk_u_off (by omega))) hM h20 he (by rw [zk_u_off (by omega)]; exact h2) h16
  obtain ⟨hc', hm', hX', hM', h20', hCu'⟩ := P'
  refine ⟨zk_row (zk_u mem 3 i (jN v)) 1 r, zk_u (zk_row zem 0 t) 11 k (jN v), s', tk', v', f1, ?_, ⟨hc', hm'.u (by omega), hX', hM'.p11 hk2, by rw [zk_u_off (by omega)]; exact h20', ?_⟩, ?_, fun j hj => ?_, ?_, fun j hj => ?_⟩
  · exact rT11 h20 (by rw [h18, htk]; rfl) (h19 htk) hin g1 h20' hk
  · unfold Cu at hCu' ⊢
    rw [zk_u_off (show (0 : Nat) ≠ 11 by omega)]
    exact hCu'
  · rw [zk_row_off (by omega), zk_u_at]
  · rw [zk_row_off (by omega), zk_u_ne hj]
  · rw [zk_u_at]
  · rw [zk_u_ne hj, zk_row_off (by omega)]
theorem numF11 {L : Nat → Nat} {N s tk v : Nat} {k : Int32} {T : Nat → Nat → Nat} {y z mem zem : zkM} {lo hi : Int32} (P : Ph L N T y z mem zem s tk v) (h : tk = 1 → fMd_in (jN v) lo hi = false) : fMd_readInto_11 zem k lo hi = some (zem.1 0 19, zk_u zem 0 20 (jN 1)) := by
  obtain ⟨hc, hm, hX, hM, h20, -, h3, h4, h5, h17, h18, h19, h19', hsN, htks, hv⟩ := P
  apply rF11 h20
  rintro ⟨a, b⟩
  rw [h18] at a
  have := mk_2 a htks
  rw [h19 this, h this] at b
  cases b
theorem num12 {L : Nat → Nat} {N s tk v i k : Nat} {T : Nat → Nat → Nat} {y z mem zem : zkM} {lo hi : Int32} (ht : Tx L N y z) (P : Ph L N T y z mem zem s tk v) (htk : tk = 1) (hin : fMd_in (jN v) lo hi = true) (hk : k < 10) (hk2 : 2 * T 0 2 ≤ k) : ∃ mem' zem' s' tk' v', fScript_step (zk_u mem 3 i (jN v)) = some mem' ∧ fMd_readInto_12 zem (jN k) lo hi = some (jN v, zem') ∧ Ph L N T y z mem' zem' s' tk' v' ∧ mem'.1 3 i = jN v ∧ (∀ j, j ≠ i → mem'.1 3 j = mem.1 3 j) ∧ zem'.1 12 k = jN v ∧ (∀ j, j ≠ k → zem'.1 12 j = zem.1 12 j) := by
  obtain ⟨hc, hm, hX, hM, h20, ⟨e, he, h2, h16⟩, h3, h4, h5, h17, h18, h19, h19', hsN, htks, hv⟩ := P
  obtain ⟨r, t, s', tk', v', f1, g1, P', hr⟩ := adv (T := T) (mem := zk_u mem 3 i (jN v)) ht (hc.u (by omega)) hm (hX.congr (fun k hk => zk_u_off (by omega))) hM h20 he (by rw [zk_u_off (by omega)]; exact h2) h16
  obtain ⟨hc', hm', hX', hM', h20', hCu'⟩ := P'
  refine ⟨zk_row (zk_u mem 3 i (jN v)) 1 r, zk_u (zk_row zem 0 t) 12 k (jN v), s', tk', v', f1, ?_, ⟨hc', hm'.u (by omega), hX', hM'.p12 hk2, by rw [zk_u_off (by omega)]; exact h20', ?_⟩, ?_, fun j hj => ?_, ?_, fun j hj => ?_⟩
  · exact rT12 h20 (by rw [h18, htk]; rfl) (h19 htk) hin g1 h20' hk
  · unfold Cu at hCu' ⊢
    rw [zk_u_off (show (0 : Nat) ≠ 12 by omega)]
    exact hCu'
  · rw [zk_row_off (by omega), zk_u_at]
  · rw [zk_row_off (by omega), zk_u_ne hj]
  · rw [zk_u_at]
  · rw [zk_u_ne hj, zk_row_off (by omega)]
theorem numF12 {L : Nat → Nat} {N s tk v : Nat} {k : Int32} {T : Nat → Nat → Nat} {y z mem zem : zkM} {lo hi : Int32} (P : Ph L N T y z mem zem s tk v) (h : tk = 1 → fMd_in (jN v) lo hi = false) : fMd_readInto_12 zem k lo hi = some (zem.1 0 19, zk_u zem 0 20 (jN 1)) := by
  obtain ⟨hc, hm, hX, hM, h20, -, h3, h4, h5, h17, h18, h19, h19', hsN, htks, hv⟩ := P
  apply rF12 h20
  rintro ⟨a, b⟩
  rw [h18] at a
  have := mk_2 a htks
  rw [h19 this, h this] at b
  cases b
theorem mkFail {L : Nat → Nat} {N s tk v : Nat} {T : Nat → Nat → Nat} {y z mem zem memj zemj zemf : zkM} (P : Ph L N T y z memj zemj s tk v) (e1 : fScript_readItem mem = some (false, memj)) (e2 : fMd_readItem zem = some zemf) (hf : zFm z zemf) (h17 : zemf.1 0 17 = zemj.1 0 17) (h20 : zemf.1 0 20 = jN 1) : Fail N y z mem zem := by
  obtain ⟨hc, hm, hX, hM, -, -, h3, h4, h5, h17', h18, h19, h19', hsN, -⟩ := P
  exact ⟨memj, zemf, s, e1, e2, hc, hf, h3, h17.trans h17', h20, hsN⟩
theorem stop_step {L : Nat → Nat} {N s tk v : Nat} {T : Nat → Nat → Nat} {y z mem zem : zkM} (P : Ph L N T y z mem zem s tk v) : (if mem.1 1 4 = jN 59 then tk = 59 else tk ≠ 59) ∧ (if zem.1 0 18 = jN 3 then true else false) = decide (tk = 59) := by
  obtain ⟨hc, hm, hX, hM, h20, -, h3, h4, h5, h17, h18, h19, h19', hsN, htks, hv⟩ := P
  rw [h4, h18]
  by_cases c : tk = 59
  · subst c; exact ⟨by rw [if_pos rfl], by decide⟩
  · refine ⟨?_, ?_⟩
    · rw [if_neg (by rw [jN_eq (by omega) (by omega)]; exact c)]; exact c
    · rw [if_neg (fun h => c (mk_3 h htks)), decide_eq_false c]
theorem itemEnd {L : Nat → Nat} {N e i9 x : Nat} {T : Nat → Nat → Nat} {y z mem zem : zkM} (ht : Tx L N y z) (hc : zFc y mem) (hm : zFm z zem) (hX : ToX T mem) (h20 : zem.1 0 20 = jN 0) (he : e ≤ N) (h2 : mem.1 1 2 = jN e) (h16 : zem.1 0 16 = jN e) (hi9 : 20 < i9) (hM : ToM T (zk_u zem 0 i9 (jN x))) : ∃ mem' zem1 s tk v, fScript_step mem = some mem' ∧ fMd_must zem true = some zem1 ∧ zem1.1 0 i9 = zem.1 0 i9 ∧ Ph L N T y z mem' (zk_u zem1 0 i9 (jN x)) s tk v := by
  obtain ⟨r, t, s, tk, v, f1, g1, c1, d1, cu, hr⟩ := adv0 ht hc hm he h2 h16
  refine ⟨zk_row mem 1 r, zk_row zem 0 t, s, tk, v, f1, mustT h20 g1, by rw [zk_row_on]; exact hr i9 (by omega), c1, d1.f (by omega), hX.congr (fun k hk => zk_row_off (by omega)), hM.congr rfl rfl rfl (fun i hi => ?_), ?_, ?_⟩
  · by_cases c : i = i9
    · rw [c, zk_u_at, zk_u_at]
    · rw [zk_u_ne c, zk_u_ne c, zk_row_on]; exact hr i (by omega)
  · rw [zk_u_ne (by omega), zk_row_on, hr 20 (by omega)]; exact h20
  · unfold Cu at cu ⊢
    rw [zk_u_ne (by omega), zk_u_ne (by omega), zk_u_ne (by omega), zk_u_ne (by omega)]
    exact cu
theorem bough_item {L : Nat → Nat} {N s v : Nat} {T : Nat → Nat → Nat} {y z mem zem : zkM} (ht : Tx L N y z) (hB : ToB T) (P : Ph L N T y z mem zem s 98 v) : Fail N y z mem zem ∨ Good L N T y z mem zem := by
  obtain ⟨hc, hm, hX, hM, h20, ⟨e, he, h2, h16⟩, h3, h4, -, h17, h18, -, h19, hsN, -, -⟩ := id P
  obtain ⟨⟨t1, t2, t3, t4, t5, t6⟩, tE⟩ := id hB
  have h19' := h19 rfl
  have hrm : fMd_readItem zem = (fMd_readBough zem).bind (fun q8 => some q8) := by
    unfold fMd_readItem
    rw [h18, h19', k1, if_pos (show jN (mk 98) = jN 1 by decide)]
    simp only [zk_let]
    rw [if_pos k98.symm]
  have hroom : fTree_hasRoomFor mem (jN 98) = decide (T 0 0 < 8) := by
    unfold fTree_hasRoomFor
    rw [if_pos k98.symm, hX.1, k8]
    simp (disch := omega) only [jN_le]
    by_cases c : T 0 0 < 8
    · rw [if_neg (by omega), decide_eq_true c]
    · rw [if_pos (by omega), decide_eq_false c]
  have hq1 : (if (8 : Int32) ≤ zem.1 0 21 then false else true) = decide (T 0 0 < 8) := by
    rw [hM.1, k8]
    simp (disch := omega) only [jN_le]
    by_cases c : T 0 0 < 8
    · rw [if_neg (by omega), decide_eq_true c]
    · rw [if_pos (by omega), decide_eq_false c]
  by_cases cB : T 0 0 < 8
  · rw [decide_eq_true cB] at hroom hq1
    obtain ⟨r1, u1, s1, tk1, v1, f1, g1, P1, hr1⟩ := adv ht hc hm hX hM h20 he h2 h16
    have hx0 : fScript_readItem mem = (fScript_readItem_L17 500 mem (jN 98) (jN 0)).bind (fun q2 => Sum.elim (fun y => some y) (fun q3 => (fScript_step q3).bind (fun q4 => (if (q4.1 1 4) = (59 : Int32) then (fTree_take_3 q4 (jN 98)).bind (fun q5 => some (true, q5)) else some (false, q4)))) q2) := by
      unfold fScript_readItem
      simp only [zk_let, h4, hroom]
      rw [if_neg (by decide), k0]
    have hm0 : fMd_readBough zem = (fMd_readInto_10 (zk_row zem 0 u1) (jN (3 * T 0 0)) (jN 0) (jN 20)).bind (fun q5 => (fMd_readInto_10 q5.2 (jN (3 * T 0 0 + 1)) (jN 1) (jN 60)).bind (fun q6 => (fMd_readInto_10 q6.2 (jN (3 * T 0 0 + 2)) (jN 0) (jN 3)).bind (fun q7 => zk_let (if (q7.2.1 0 18) = (3 : Int32) then true else false) (fun q8 => (fMd_must q7.2 q8).bind (fun q10 => zk_let (zk_u q10 0 21 ((q10.1 0 21) + (1 : Int32))) (fun m11 => some m11)))))) := by
      unfold fMd_readBough
      simp only [zk_let, hq1, mustT h20 g1, Option.bind_some]
      rw [P1.2.2.2.2.1, P1.2.2.2.1.1, k0, if_pos rfl]
      simp only [k1, k2, k3, k20, k60, jN_mul, jN_add]
    have hst : ∀ (q : zkM) (i v tk : Nat), i < 3 → (tk = 1 → q.1 1 5 = jN v) → (tk = 1 → v ≤ 99) → tk = 1 → fScript_mayStand q (jN 98) (jN i) = some (decide (rlo 98 i ≤ v ∧ v ≤ rhi 98 i)) := fun q i v tk a b c d => stand98 a (b d) (c d)
    have hin : ∀ (v lo hi : Nat), v ≤ 99 → lo < 1000 → hi < 1000 → fMd_in (jN v) (jN lo) (jN hi) = decide (lo ≤ v ∧ v ≤ hi) := fun v lo hi a b c => in_jN (by omega) (by omega) (by omega)
    have wrong : ∀ zw : zkM, zFm z zw → zw.1 0 20 = jN 1 → zFm z (zk_u zw 0 21 (zw.1 0 21 + 1)) ∧ (zk_u zw 0 21 (zw.1 0 21 + 1)).1 0 17 = zw.1 0 17 ∧ (zk_u zw 0 21 (zw.1 0 21 + 1)).1 0 20 = jN 1 := fun zw a b => ⟨a.f (by omega), zk_u_ne (by omega), by rw [zk_u_ne (by omega)]; exact b⟩
    obtain ⟨-, hm1, -, -, -, -, -, q14, q15, -, -, -, -, -, q1t, q1v⟩ := id P1
    by_cases c1 : tk1 = 1 ∧ (0 ≤ v1 ∧ v1 ≤ 20)
    · have v1b := q1v c1.1
      obtain ⟨m2, z2, s2, tk2, v2, f2, g2, P2, a2, b2, c2, d2⟩ := num10 (i := 0) (k := 3 * T 0 0) (lo := jN 0) (hi := jN 20) ht P1 c1.1 (by rw [hin _ _ _ v1b (by omega) (by omega)]; exact decide_eq_true c1.2) (by omega) (by omega)
      have x1 := l17T (n := 499) f1 nof98 (show 0 < 3 by omega) (by omega) (by rw [q14, c1.1]) (q15 c1.1) (by rw [hst _ 0 v1 tk1 (by omega) q15 q1v c1.1]; congr 1; exact decide_eq_true c1.2)
      obtain ⟨-, hm2, -, -, -, -, -, q24, q25, -, -, -, -, -, q2t, q2v⟩ := id P2
      by_cases cc2 : tk2 = 1 ∧ (1 ≤ v2 ∧ v2 ≤ 60)
      · have v2b := q2v cc2.1
        obtain ⟨m3, z3, s3, tk3, v3, f3, g3, P3, a3, b3, c3, d3⟩ := num10 (i := 1) (k := 3 * T 0 0 + 1) (lo := jN 1) (hi := jN 60) ht P2 cc2.1 (by rw [hin _ _ _ v2b (by omega) (by omega)]; exact decide_eq_true cc2.2) (by omega) (by omega)
        have x2 := l17T (n := 498) f2 nof98 (show 1 < 3 by omega) (by omega) (by rw [q24, cc2.1]) (q25 cc2.1) (by rw [hst _ 1 v2 tk2 (by omega) q25 q2v cc2.1]; congr 1; exact decide_eq_true cc2.2)
        obtain ⟨-, hm3, -, -, -, -, -, q34, q35, -, -, -, -, -, q3t, q3v⟩ := id P3
        by_cases cc3 : tk3 = 1 ∧ (0 ≤ v3 ∧ v3 ≤ 3)
        · have v3b := q3v cc3.1
          obtain ⟨m4, z4, s4, tk4, v4, f4, g4, P4, a4, b4, c4, d4⟩ := num10 (i := 2) (k := 3 * T 0 0 + 2) (lo := jN 0) (hi := jN 3) ht P3 cc3.1 (by rw [hin _ _ _ v3b (by omega) (by omega)]; exact decide_eq_true cc3.2) (by omega) (by omega)
          have x3 := l17T (n := 497) f3 nof98 (show 2 < 3 by omega) (by omega) (by rw [q34, cc3.1]) (q35 cc3.1) (by rw [hst _ 2 v3 tk3 (by omega) q35 q3v cc3.1]; congr 1; exact decide_eq_true cc3.2)
          have x4 := l17E (n := 496) (mem := zk_u m3 3 2 (jN v3)) nof98
          have hL17 : fScript_readItem_L17 500 mem (jN 98) (jN 0) = some (.inr (zk_u m3 3 2 (jN v3))) := x1.trans (x2.trans (x3.trans x4))
          obtain ⟨st1, st2⟩ := stop_step P4
          obtain ⟨hc4, hm4, hX4, hM4, h204, ⟨e4, he4, h24, h164⟩, -, q44, -, -, -, -, -, -, q4t, -⟩ := id P4
          by_cases c59 : tk4 = 59
          · right
            have l0 : m4.1 3 0 = jN v1 := by rw [b4 0 (by omega), b3 0 (by omega)]; exact a2
            have l1 : m4.1 3 1 = jN v2 := by rw [b4 1 (by omega)]; exact a3
            have hroom4 : fTree_hasRoomFor m4 (jN 98) = true := by
              unfold fTree_hasRoomFor
              rw [if_pos k98.symm, hX4.1, k8, if_neg (by rw [jN_le (by omega) (by omega)]; omega)]
            have htake : fTree_take_3 m4 (jN 98) = some (zk_u (zk_u (zk_u (zk_u m4 56 (T 0 0) (jN v1)) 57 (T 0 0) (jN v2)) 58 (T 0 0) (jN v3)) 55 0 (jN (T 0 0 + 1))) := by
              unfold fTree_take_3
              rw [hroom4, if_neg (by decide), if_pos k98.symm]
              simp (disch := omega) only [zk_let, Option.bind_some, cond_true, cond_false, if_true, if_false, zbF, zbT, within_in, jn9, k0, k1, k2, k3, k4, k5, k6, k7, k8, k9, k10, k12, k16, k17, k20, k29, k30, k31, k32, k36, k40, k41, k42, k48, k57, k59, k60, k64, k98, k99, k100, k112, k128, k200, k255, k256, k378, k420, k999, k1000000, jN_add, jN_mul, jN_clamp, jN_inbT, Bool.false_eq_true, Bool.true_eq_false, hX4.1, l0, l1, a4, zk_u_off, jN_clamp]
            generalize hm5 : zk_u (zk_u (zk_u (zk_u m4 56 (T 0 0) (jN v1)) 57 (T 0 0) (jN v2)) 58 (T 0 0) (jN v3)) 55 0 (jN (T 0 0 + 1)) = m5 at htake
            have hc5 : zFc y m5 := by rw [← hm5]; exact (((hc4.u (by omega)).u (by omega)).u (by omega)).u (by omega)
            have n1 : m5.1 1 = m4.1 1 := by rw [← hm5, zk_u_off (by omega), zk_u_off (by omega), zk_u_off (by omega), zk_u_off (by omega)]
            obtain ⟨T', hT'⟩ : ∃ T' : Nat → Nat → Nat, T' = setR (setR (setR (setR T 0 0 (T 0 0 + 1)) 1 (T 0 0) v1) 2 (T 0 0) v2) 3 (T 0 0) v3 := ⟨_, rfl⟩
            have e00 : T' 0 0 = T 0 0 + 1 := by rw [hT']; simp [setR]
            have eoth : ∀ a b, a ≠ 1 → a ≠ 2 → a ≠ 3 → (a ≠ 0 ∨ b ≠ 0) → T' a b = T a b := by
              intro a b i1 i2 i3 i4
              rw [hT', setR_ne i3, setR_ne i2, setR_ne i1]
              rcases i4 with i4 | i4
              · exact setR_ne i4
              · exact setR_ne2 i4
            have eb : ∀ a b, b ≠ T 0 0 → (a ≠ 0) → T' a b = T a b := by
              intro a b i1 i2
              rw [hT', setR_ne2 i1, setR_ne2 i1, setR_ne2 i1, setR_ne i2]
            have e1n : T' 1 (T 0 0) = v1 := by rw [hT']; simp [setR]
            have e2n : T' 2 (T 0 0) = v2 := by rw [hT']; simp [setR]
            have e3n : T' 3 (T 0 0) = v3 := by rw [hT']; simp [setR]
            have e01 : T' 0 1 = T 0 1 := eoth 0 1 (by omega) (by omega) (by omega) (by omega)
            have e02 : T' 0 2 = T 0 2 := eoth 0 2 (by omega) (by omega) (by omega) (by omega)
            have hB' : ToB T' := by
              refine ⟨⟨by omega, by omega, by omega, fun b hb => ?_, fun p hp => ?_, fun c hc => ?_⟩, fun p hp => ?_⟩
              · by_cases cb : b = T 0 0
                · rw [cb, e1n, e2n, e3n]; omega
                · rw [eb 1 b cb (by omega), eb 2 b cb (by omega), eb 3 b cb (by omega)]; exact t4 b (by omega)
              · rw [eoth 4 p (by omega) (by omega) (by omega) (by omega), eoth 5 p (by omega) (by omega) (by omega) (by omega), eoth 6 p (by omega) (by omega) (by omega) (by omega)]
                have := t5 p (by omega); omega
              · rw [eoth 7 c (by omega) (by omega) (by omega) (by omega), eoth 8 c (by omega) (by omega) (by omega) (by omega)]
                exact t6 c (by omega)
              · rw [eoth 9 p (by omega) (by omega) (by omega) (by omega), eoth 10 p (by omega) (by omega) (by omega) (by omega)]
                exact tE p (by omega)
            have hX5 : ToX T' m5 := by
              rw [← hm5]
              refine ⟨by rw [zk_u_at, e00], ?_, ?_, fun b hb => ?_, fun p hp => ?_, fun c hc => ?_⟩
              · rw [zk_u_ne (by omega), zk_u_off (by omega), zk_u_off (by omega), zk_u_off (by omega), e01]; exact hX4.2.1
              · rw [zk_u_ne (by omega), zk_u_off (by omega), zk_u_off (by omega), zk_u_off (by omega), e02]; exact hX4.2.2.1
              · simp (disch := omega) only [zk_u_off]
                by_cases cb : b = T 0 0
                · rw [cb, e1n, e2n, e3n, zk_u_at, zk_u_at, zk_u_at]; exact ⟨rfl, rfl, rfl⟩
                · rw [zk_u_ne cb, zk_u_ne cb, zk_u_ne cb, eb 1 b cb (by omega), eb 2 b cb (by omega), eb 3 b cb (by omega)]; exact hX4.2.2.2.1 b (by omega)
              · simp (disch := omega) only [zk_u_off]
                rw [eoth 4 p (by omega) (by omega) (by omega) (by omega), eoth 5 p (by omega) (by omega) (by omega) (by omega), eoth 6 p (by omega) (by omega) (by omega) (by omega), eoth 9 p (by omega) (by omega) (by omega) (by omega), eoth 10 p (by omega) (by omega) (by omega) (by omega)]
                exact hX4.2.2.2.2.1 p (by omega)
              · simp (disch := omega) only [zk_u_off]
                rw [eoth 7 c (by omega) (by omega) (by omega) (by omega), eoth 8 c (by omega) (by omega) (by omega) (by omega)]
                exact hX4.2.2.2.2.2 c (by omega)
            have hM5 : ToM T' (zk_u z4 0 21 (jN (T 0 0 + 1))) := by
              refine ⟨by rw [zk_u_at, e00], by rw [zk_u_ne (by omega), e01]; exact hM4.2.1, by rw [zk_u_ne (by omega), e02]; exact hM4.2.2.1, fun b hb => ?_, fun p hp => ?_, fun c hc => ?_⟩
              · simp (disch := omega) only [zk_u_off]
                by_cases cb : b = T 0 0
                · rw [cb, e1n, e2n, e3n]
                  refine ⟨?_, ?_, c4⟩
                  · rw [d4 _ (by omega), d3 _ (by omega)]; exact c2
                  · rw [d4 _ (by omega)]; exact c3
                · rw [eb 1 b cb (by omega), eb 2 b cb (by omega), eb 3 b cb (by omega)]; exact hM4.2.2.2.1 b (by omega)
              · simp (disch := omega) only [zk_u_off]
                rw [eoth 4 p (by omega) (by omega) (by omega) (by omega), eoth 5 p (by omega) (by omega) (by omega) (by omega), eoth 6 p (by omega) (by omega) (by omega) (by omega), eoth 9 p (by omega) (by omega) (by omega) (by omega), eoth 10 p (by omega) (by omega) (by omega) (by omega)]
                exact hM4.2.2.2.2.1 p (by omega)
              · simp (disch := omega) only [zk_u_off]
                rw [eoth 7 c (by omega) (by omega) (by omega) (by omega), eoth 8 c (by omega) (by omega) (by omega) (by omega)]
                exact hM4.2.2.2.2.2 c (by omega)
            obtain ⟨m6, z6, s6, tk6, v6, f6, g6, h6, P6⟩ := itemEnd ht hc5 hm4 hX5 h204 he4 (by rw [n1]; exact h24) h164 (by omega) hM5
            refine ⟨m5, m6, zk_u z6 0 21 (jN (T 0 0 + 1)), T', s6, tk6, v6, ?_, f6, ?_, hB', P6, by omega⟩
            · rw [hx0, hL17]
              simp only [Option.bind_some, Sum.elim_inr, f4]
              rw [q44, c59, if_pos k59.symm, htake]; rfl
            · rw [hrm, hm0, g2]
              simp only [Option.bind_some, g3, g4]
              rw [k3, st2, decide_eq_true c59]
              simp only [zk_let, g6, Option.bind_some]
              rw [h6, hM4.1, k1, jN_add]
          · left
            have hw20 : (zk_u z4 0 20 (jN 1)).1 0 20 = jN 1 := zk_u_at
            obtain ⟨w1, w2, w3⟩ := wrong (zk_u z4 0 20 (jN 1)) (hm4.f (by omega)) hw20
            refine mkFail P4 ?_ ?_ w1 (by rw [w2, zk_u_ne (by omega)]) w3
            · rw [hx0, hL17]
              simp only [Option.bind_some, Sum.elim_inr, f4]
              rw [q44, k59, if_neg (by rw [jN_eq (by omega) (by omega)]; exact c59)]
            · rw [hrm, hm0, g2]
              simp only [Option.bind_some, g3, g4]
              rw [k3, st2, decide_eq_false c59]
              simp only [zk_let, mustF h204, Option.bind_some]
        · left
          have x3 := l17F (n := 497) f3 nof98 (show 2 < 3 by omega) (by omega) q34 (by omega) (fun h9 => by rw [hst _ 2 v3 tk3 (by omega) q35 q3v h9]; congr 1; exact decide_eq_false (fun h8 => cc3 ⟨h9, h8⟩))
          have g4 := numF10 (k := jN (3 * T 0 0 + 2)) (lo := jN 0) (hi := jN 3) P3 (fun h9 => by rw [hin _ _ _ (q3v h9) (by omega) (by omega)]; exact decide_eq_false (fun h8 => cc3 ⟨h9, h8⟩))
          have hw20 : (zk_u z3 0 20 (jN 1)).1 0 20 = jN 1 := zk_u_at
          obtain ⟨w1, w2, w3⟩ := wrong (zk_u z3 0 20 (jN 1)) (hm3.f (by omega)) hw20
          refine mkFail P3 (by rw [hx0, x1, x2, x3]; rfl) (by rw [hrm, hm0, g2]; simp only [Option.bind_some, g3, g4, mustW hw20, zk_let]) w1 (by rw [w2, zk_u_ne (by omega)]) w3
      · left
        have x2 := l17F (n := 498) f2 nof98 (show 1 < 3 by omega) (by omega) q24 (by omega) (fun h9 => by rw [hst _ 1 v2 tk2 (by omega) q25 q2v h9]; congr 1; exact decide_eq_false (fun h8 => cc2 ⟨h9, h8⟩))
        have g3 := numF10 (k := jN (3 * T 0 0 + 1)) (lo := jN 1) (hi := jN 60) P2 (fun h9 => by rw [hin _ _ _ (q2v h9) (by omega) (by omega)]; exact decide_eq_false (fun h8 => cc2 ⟨h9, h8⟩))
        have hw20 : (zk_u z2 0 20 (jN 1)).1 0 20 = jN 1 := zk_u_at
        obtain ⟨w1, w2, w3⟩ := wrong (zk_u z2 0 20 (jN 1)) (hm2.f (by omega)) hw20
        refine mkFail P2 (by rw [hx0, x1, x2]; rfl) (by rw [hrm, hm0, g2]; simp only [Option.bind_some, g3, rW10 hw20, mustW hw20, zk_let]) w1 (by rw [w2, zk_u_ne (by omega)]) w3
    · left
      have x1 := l17F (n := 499) f1 nof98 (show 0 < 3 by omega) (by omega) q14 (by omega) (fun h9 => by rw [hst _ 0 v1 tk1 (by omega) q15 q1v h9]; congr 1; exact decide_eq_false (fun h8 => c1 ⟨h9, h8⟩))
      have g2 := numF10 (k := jN (3 * T 0 0)) (lo := jN 0) (hi := jN 20) P1 (fun h9 => by rw [hin _ _ _ (q1v h9) (by omega) (by omega)]; exact decide_eq_false (fun h8 => c1 ⟨h9, h8⟩))
      have hw20 : (zk_u (zk_row zem 0 u1) 0 20 (jN 1)).1 0 20 = jN 1 := zk_u_at
      obtain ⟨w1, w2, w3⟩ := wrong (zk_u (zk_row zem 0 u1) 0 20 (jN 1)) (hm1.f (by omega)) hw20
      refine mkFail P1 (by rw [hx0, x1]; rfl) (by rw [hrm, hm0, g2]; simp only [Option.bind_some, rW10 hw20, mustW hw20, zk_let]) w1 (by rw [w2, zk_u_ne (by omega)]) w3
  · left
    rw [decide_eq_false cB] at hroom hq1
    have hx0 : fScript_readItem mem = some (false, mem) := by
      unfold fScript_readItem
      simp only [zk_let, h4, hroom]
      rw [if_pos (by decide)]
    have hm0 : fMd_readItem zem = some (zk_u zem 0 20 (jN 1)) := by
      rw [hrm]
      unfold fMd_readBough
      simp only [zk_let, hq1, mustF h20, Option.bind_some, zk_u_at]
      rw [if_neg (by decide)]; rfl
    exact mkFail P hx0 hm0 (hm.f (by omega)) (by rw [zk_u_ne (by omega)]) zk_u_at
