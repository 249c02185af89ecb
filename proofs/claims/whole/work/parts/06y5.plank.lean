theorem numB {L : Nat → Nat} {N s tk v i k : Nat} {T : Nat → Nat → Nat} {y z mem zem : zkM} (ht : Tx L N y z) (P : Ph L N T y z mem zem s tk v) (hk2 : 5 * T 0 1 ≤ k) : ∃ mem' zem' s' tk' v', fScript_step (zk_u mem 3 i (jN v)) = some mem' ∧ fMd_must zem true = some zem' ∧ Ph L N T y z mem' (zk_u zem' 11 k (jN v)) s' tk' v' ∧ mem'.1 3 i = jN v ∧ (∀ j, j ≠ i → mem'.1 3 j = mem.1 3 j) ∧ (zk_u zem' 11 k (jN v)).1 11 k = jN v ∧ (∀ j, j ≠ k → (zk_u zem' 11 k (jN v)).1 11 j = zem.1 11 j) := by
  obtain ⟨hc, hm, hX, hM, h20, ⟨e, he, h2, h16⟩, h3, h4, h5, h17, h18, h19, h19', hsN, htks, hv⟩ := P
  obtain ⟨r, t, s', tk', v', f1, g1, P', hr⟩ := adv (T := T) (mem := zk_u mem 3 i (jN v)) ht (hc.u (by omega)) hm (hX.congr (fun k hk => zk_u_off (by omega))) hM h20 he (by rw [zk_u_off (by omega)]; exact h2) h16
  obtain ⟨hc', hm', hX', hM', h20', hCu'⟩ := P'
  refine ⟨zk_row (zk_u mem 3 i (jN v)) 1 r, zk_row zem 0 t, s', tk', v', f1, mustT h20 g1, ⟨hc', hm'.u (by omega), hX', hM'.p11 hk2, by rw [zk_u_off (by omega)]; exact h20', ?_⟩, ?_, fun j hj => ?_, ?_, fun j hj => ?_⟩
  · unfold Cu at hCu' ⊢
    rw [zk_u_off (show (0 : Nat) ≠ 11 by omega)]
    exact hCu'
  · rw [zk_row_off (by omega), zk_u_at]
  · rw [zk_row_off (by omega), zk_u_ne hj]
  · rw [zk_u_at]
  · rw [zk_u_ne hj, zk_row_off (by omega)]
theorem condB {L : Nat → Nat} {N s tk v a : Nat} {T : Nat → Nat → Nat} {y z mem zem : zkM} (hB : ToB T) (P : Ph L N T y z mem zem s tk v) (ha : a < T 0 0) : (if zem.1 0 18 = (2 : Int32) then (if zk_b (fMd_in (zem.1 0 19) (0 : Int32) (zem.1 0 21 - (1 : Int32))) = 0 then some false else (fMd_mayJoin zem (jN a) (zem.1 0 19)).bind (fun q8 => (if zk_b q8 = 0 then some false else some true))) else some false) = some (decide (tk = 1) && near T a v) := by
  obtain ⟨hc, hm, hX, hM, h20, -, h3, h4, h5, h17, h18, h19, h19', hsN, htks, hv⟩ := P
  obtain ⟨⟨t1, t2, t3, t4, t5, t6⟩, -⟩ := hB
  by_cases c : tk = 1
  · have v9 := hv c
    have h19 := h19 c
    rw [h18, h19, hM.1, c, k0, k1, k2, if_pos (show jN (mk 1) = jN 2 by decide), in_K (by omega) (by omega)]
    simp only [zbF, decide_true, Bool.true_and]
    unfold near
    by_cases cv : v < T 0 0
    · rw [decide_eq_true cv, if_neg (by decide), Bool.true_and]
      unfold fMd_mayJoin
      simp (disch := omega) only [k3, jN_mul, jN_inbT, jN_clamp, cond_true, (hM.2.2.2.1 a ha).1, (hM.2.2.2.1 v cv).1, zk_let, jN_eq, k0, k2, zbF]
      by_cases c3 : a = v
      · rw [if_pos c3, decide_eq_false (show ¬ a ≠ v from fun h => h c3)]; rfl
      · rw [if_neg c3, decide_eq_true (show a ≠ v from c3), Bool.true_and]
        cases fMd_in (jN (T 1 a) - jN (T 1 v)) (-jN 2) (jN 2)
        · rfl
        · rfl
    · rw [decide_eq_false cv, if_pos rfl, Bool.false_and]
  · rw [h18, k2, if_neg (fun h => c (mk_2 h htks)), decide_eq_false c, Bool.false_and]
theorem plank_item {L : Nat → Nat} {N s v : Nat} {T : Nat → Nat → Nat} {y z mem zem : zkM} (ht : Tx L N y z) (hB : ToB T) (P : Ph L N T y z mem zem s 112 v) : Fail N y z mem zem ∨ Good L N T y z mem zem := by
  obtain ⟨hc, hm, hX, hM, h20, ⟨e, he, h2, h16⟩, h3, h4, -, h17, h18, -, h19, hsN, -, -⟩ := id P
  obtain ⟨⟨t1, t2, t3, t4, t5, t6⟩, tE⟩ := id hB
  have h19' := h19 rfl
  have hrm : fMd_readItem zem = (fMd_readPlank zem).bind (fun q8 => some q8) := by
    unfold fMd_readItem
    rw [h18, h19', k1, if_pos (show jN (mk 112) = jN 1 by decide)]
    simp only [zk_let]
    rw [if_neg (by decide), if_pos k112.symm]
  have hroomG : ∀ m9 : zkM, m9.1 55 1 = jN (T 0 1) → fTree_hasRoomFor m9 (jN 112) = decide (T 0 1 < 6) := by
    intro m9 h9
    unfold fTree_hasRoomFor
    rw [if_neg (by decide), if_neg (by decide), if_pos k112.symm, h9, k6]
    simp (disch := omega) only [jN_le]
    by_cases c : T 0 1 < 6
    · rw [if_neg (by omega), decide_eq_true c]
    · rw [if_pos (by omega), decide_eq_false c]
  have hroom := hroomG mem hX.2.1
  have hq1 : (if (6 : Int32) ≤ zem.1 0 23 then false else true) = decide (T 0 1 < 6) := by
    rw [hM.2.1, k6]
    simp (disch := omega) only [jN_le]
    by_cases c : T 0 1 < 6
    · rw [if_neg (by omega), decide_eq_true c]
    · rw [if_pos (by omega), decide_eq_false c]
  by_cases cB : T 0 1 < 6
  · rw [decide_eq_true cB] at hroom hq1
    obtain ⟨r1, u1, s1, tk1, v1, f1, g1, P1, hr1⟩ := adv ht hc hm hX hM h20 he h2 h16
    have hx0 : fScript_readItem mem = (fScript_readItem_L17 500 mem (jN 112) (jN 0)).bind (fun q2 => Sum.elim (fun y => some y) (fun q3 => (fScript_step q3).bind (fun q4 => (if (q4.1 1 4) = (59 : Int32) then (fTree_take_3 q4 (jN 112)).bind (fun q5 => some (true, q5)) else some (false, q4)))) q2) := by
      unfold fScript_readItem
      simp only [zk_let, h4, hroom]
      rw [if_neg (by decide), k0]
    have hm0 : fMd_readPlank zem = (fMd_readInto_11 (zk_row zem 0 u1) (jN (5 * T 0 1)) (jN 0) (jN (T 0 0) - jN 1)).bind (fun q5 => ((if q5.2.1 0 18 = (2 : Int32) then (if zk_b (fMd_in (q5.2.1 0 19) (0 : Int32) (q5.2.1 0 21 - (1 : Int32))) = 0 then some false else (fMd_mayJoin q5.2 q5.1 (q5.2.1 0 19)).bind (fun q8 => (if zk_b q8 = 0 then some false else some true))) else some false)).bind (fun q7 => (fMd_must q5.2 q7).bind (fun q12 => (fMd_readInto_11 (zk_u q12 11 (5 * T 0 1 + 1) (q5.2.1 0 19)) (jN (5 * T 0 1 + 2)) (jN 1) (jN 40)).bind (fun q15 => (fMd_readInto_11 q15.2 (jN (5 * T 0 1 + 3)) (jN 0) (jN 3)).bind (fun q16 => (fMd_readInto_11 q16.2 (jN (5 * T 0 1 + 4)) (jN 0) (jN 3)).bind (fun q17 => zk_let (if (q17.2.1 0 18) = (3 : Int32) then true else false) (fun q18 => (fMd_must q17.2 q18).bind (fun q20 => zk_let (zk_u q20 0 23 ((q20.1 0 23) + (1 : Int32))) (fun m21 => some m21))))))))) := by
      unfold fMd_readPlank
      simp only [zk_let, hq1, mustT h20 g1, Option.bind_some]
      rw [P1.2.2.2.2.1, P1.2.2.2.1.2.1, P1.2.2.2.1.1, k0, if_pos rfl]
      simp (disch := omega) only [k1, k2, k3, k4, k5, k40, jN_mul, jN_add, jN_inbT, jN_clamp, cond_true]
    have hin : ∀ (v lo hi : Nat), v ≤ 99 → lo < 1000 → hi < 1000 → fMd_in (jN v) (jN lo) (jN hi) = decide (lo ≤ v ∧ v ≤ hi) := fun v lo hi a b c => in_jN (by omega) (by omega) (by omega)
    have hst : ∀ (q : zkM) (i v tk : Nat), 2 ≤ i → i < 5 → (tk = 1 → q.1 1 5 = jN v) → (tk = 1 → v ≤ 99) → tk = 1 → fScript_mayStand q (jN 112) (jN i) = some (decide (rlo 112 i ≤ v ∧ v ≤ rhi 112 i)) := fun q i v tk a0 a b c d => stand112 a0 a (b d) (c d)
    have wrong : ∀ zw : zkM, zFm z zw → zw.1 0 20 = jN 1 → zFm z (zk_u zw 0 23 (zw.1 0 23 + 1)) ∧ (zk_u zw 0 23 (zw.1 0 23 + 1)).1 0 17 = zw.1 0 17 ∧ (zk_u zw 0 23 (zw.1 0 23 + 1)).1 0 20 = jN 1 := fun zw a b => ⟨a.f (by omega), zk_u_ne (by omega), by rw [zk_u_ne (by omega)]; exact b⟩
    obtain ⟨-, hm1, hX1, hM1, -, -, -, q14, q15, -, q18, q19, -, -, q1t, q1v⟩ := id P1
    by_cases c1 : tk1 = 1 ∧ v1 < T 0 0
    · have v1b := q1v c1.1
      obtain ⟨m2, z2, s2, tk2, v2, f2, g2, P2, a2, b2, c2, d2⟩ := num11 (i := 0) (k := 5 * T 0 1) (lo := jN 0) (hi := jN (T 0 0) - jN 1) ht P1 c1.1 (by rw [in_K (by omega) (by omega)]; exact decide_eq_true c1.2) (by omega) (by omega)
      have x1 := l17T (n := 499) f1 nof112 (show 0 < 5 by omega) (by omega) (by rw [q14, c1.1]) (q15 c1.1) (by rw [stand112a hB.1 hX1 (q15 c1.1) v1b, decide_eq_true c1.2])
      obtain ⟨-, hm2, hX2, hM2, h202, -, -, q24, q25, -, q28, q29, -, -, q2t, q2v⟩ := id P2
      have hcb := condB hB P2 c1.2
      by_cases cc2 : tk2 = 1 ∧ near T v1 v2 = true
      · have v2b := q2v cc2.1
        have v2n : v2 < T 0 0 := by
          have := cc2.2
          unfold near at this
          rw [Bool.and_eq_true] at this
          exact of_decide_eq_true this.1
        rw [cc2.1, cc2.2] at hcb
        obtain ⟨m3, z3', s3, tk3, v3, f3, g3, P3, a3, b3, c3, d3⟩ := numB (i := 1) (k := 5 * T 0 1 + 1) ht P2 (by omega)
        have x2 := l17T (n := 498) f2 nof112 (show 1 < 5 by omega) (by omega) (by rw [q24, cc2.1]) (q25 cc2.1) (by rw [stand112b hB.1 hX2 (q25 cc2.1) v2b a2 c1.2, cc2.2])
        have hz29 := q29 cc2.1
        generalize hz3 : zk_u z3' 11 (5 * T 0 1 + 1) (jN v2) = z3 at *
        obtain ⟨-, hm3, -, -, -, -, -, q34, q35, -, -, -, -, -, q3t, q3v⟩ := id P3
        by_cases cc3 : tk3 = 1 ∧ (1 ≤ v3 ∧ v3 ≤ 40)
        · have v3b := q3v cc3.1
          obtain ⟨m4, z4, s4, tk4, v4, f4, g4, P4, a4, b4, c4, d4⟩ := num11 (i := 2) (k := 5 * T 0 1 + 2) (lo := jN 1) (hi := jN 40) ht P3 cc3.1 (by rw [hin _ _ _ v3b (by omega) (by omega)]; exact decide_eq_true cc3.2) (by omega) (by omega)
          have x3 := l17T (n := 497) f3 nof112 (show 2 < 5 by omega) (by omega) (by rw [q34, cc3.1]) (q35 cc3.1) (by rw [hst _ 2 v3 tk3 (by omega) (by omega) q35 q3v cc3.1]; congr 1; exact decide_eq_true cc3.2)
          obtain ⟨-, hm4, -, -, -, -, -, q44, q45, -, -, -, -, -, q4t, q4v⟩ := id P4
          by_cases cc4 : tk4 = 1 ∧ (0 ≤ v4 ∧ v4 ≤ 3)
          · have v4b := q4v cc4.1
            obtain ⟨m5, z5, s5, tk5, v5, f5, g5, P5, a5, b5, c5, d5⟩ := num11 (i := 3) (k := 5 * T 0 1 + 3) (lo := jN 0) (hi := jN 3) ht P4 cc4.1 (by rw [hin _ _ _ v4b (by omega) (by omega)]; exact decide_eq_true cc4.2) (by omega) (by omega)
            have x4 := l17T (n := 496) f4 nof112 (show 3 < 5 by omega) (by omega) (by rw [q44, cc4.1]) (q45 cc4.1) (by rw [hst _ 3 v4 tk4 (by omega) (by omega) q45 q4v cc4.1]; congr 1; exact decide_eq_true cc4.2)
            obtain ⟨-, hm5, -, -, -, -, -, q54, q55, -, -, -, -, -, q5t, q5v⟩ := id P5
            by_cases cc5 : tk5 = 1 ∧ (0 ≤ v5 ∧ v5 ≤ 3)
            · have v5b := q5v cc5.1
              obtain ⟨m6, z6, s6, tk6, v6, f6, g6, P6, a6, b6, c6, d6⟩ := num11 (i := 4) (k := 5 * T 0 1 + 4) (lo := jN 0) (hi := jN 3) ht P5 cc5.1 (by rw [hin _ _ _ v5b (by omega) (by omega)]; exact decide_eq_true cc5.2) (by omega) (by omega)
              have x5 := l17T (n := 495) f5 nof112 (show 4 < 5 by omega) (by omega) (by rw [q54, cc5.1]) (q55 cc5.1) (by rw [hst _ 4 v5 tk5 (by omega) (by omega) q55 q5v cc5.1]; congr 1; exact decide_eq_true cc5.2)
              have x6 := l17E (n := 494) (mem := zk_u m5 3 4 (jN v5)) nof112
              have hL17 : fScript_readItem_L17 500 mem (jN 112) (jN 0) = some (.inr (zk_u m5 3 4 (jN v5))) := x1.trans (x2.trans (x3.trans (x4.trans (x5.trans x6))))
              obtain ⟨st1, st2⟩ := stop_step P6
              obtain ⟨hc6, hm6, hX6, hM6, h206, ⟨e6, he6, h26, h166⟩, -, q64, -, -, -, -, -, -, q6t, -⟩ := id P6
              have hgo : fMd_readPlank zem = zk_let (if (z6.1 0 18) = (3 : Int32) then true else false) (fun q18 => (fMd_must z6 q18).bind (fun q20 => zk_let (zk_u q20 0 23 ((q20.1 0 23) + (1 : Int32))) (fun m21 => some m21))) := by
                rw [hm0, g2]
                simp only [Option.bind_some]
                rw [hcb]
                simp only [decide_true, Bool.and_self, Option.bind_some, g3, hz29, hz3, g4, g5, g6]
              by_cases c59 : tk6 = 59
              · right
                have l0 : m6.1 3 0 = jN v1 := by rw [b6 0 (by omega), b5 0 (by omega), b4 0 (by omega), b3 0 (by omega)]; exact a2
                have l1 : m6.1 3 1 = jN v2 := by rw [b6 1 (by omega), b5 1 (by omega), b4 1 (by omega)]; exact a3
                have l2 : m6.1 3 2 = jN v3 := by rw [b6 2 (by omega), b5 2 (by omega)]; exact a4
                have l3 : m6.1 3 3 = jN v4 := by rw [b6 3 (by omega)]; exact a5
                have w0 : z6.1 11 (5 * T 0 1) = jN v1 := by rw [d6 _ (by omega), d5 _ (by omega), d4 _ (by omega), d3 _ (by omega)]; exact c2
                have w1 : z6.1 11 (5 * T 0 1 + 1) = jN v2 := by rw [d6 _ (by omega), d5 _ (by omega), d4 _ (by omega)]; exact c3
                have w2 : z6.1 11 (5 * T 0 1 + 2) = jN v3 := by rw [d6 _ (by omega), d5 _ (by omega)]; exact c4
                have w3 : z6.1 11 (5 * T 0 1 + 3) = jN v4 := by rw [d6 _ (by omega)]; exact c5
                have hroom6 : fTree_hasRoomFor m6 (jN 112) = true := by rw [hroomG m6 hX6.2.1]; exact decide_eq_true cB
                have htake : fTree_take_3 m6 (jN 112) = some (zk_u (zk_u (zk_u (zk_u (zk_u (zk_u m6 60 (2 * T 0 1) (jN v1)) 60 (2 * T 0 1 + 1) (jN v2)) 59 (T 0 1) (jN v3)) 61 (2 * T 0 1) (jN v4)) 61 (2 * T 0 1 + 1) (jN v5)) 55 1 (jN (T 0 1 + 1))) := by
                  unfold fTree_take_3
                  rw [hroom6, if_neg (by decide), if_neg (by decide), if_pos k112.symm]
                  simp (disch := omega) only [zk_let, Option.bind_some, cond_true, cond_false, if_true, if_false, zbF, zbT, within_in, jn9, k0, k1, k2, k3, k4, k5, k6, k7, k8, k9, k10, k12, k16, k17, k20, k29, k30, k31, k32, k36, k40, k41, k42, k48, k57, k59, k60, k64, k98, k99, k100, k112, k128, k200, k255, k256, k378, k420, k999, k1000000, jN_add, jN_mul, jN_clamp, jN_inbT, Bool.false_eq_true, Bool.true_eq_false, hX6.2.1, l0, l1, l2, l3, a6, zk_u_off, jN_clamp]
                generalize hm7 : zk_u (zk_u (zk_u (zk_u (zk_u (zk_u m6 60 (2 * T 0 1) (jN v1)) 60 (2 * T 0 1 + 1) (jN v2)) 59 (T 0 1) (jN v3)) 61 (2 * T 0 1) (jN v4)) 61 (2 * T 0 1 + 1) (jN v5)) 55 1 (jN (T 0 1 + 1)) = m7 at htake
                have hc7 : zFc y m7 := by rw [← hm7]; exact (((((hc6.u (by omega)).u (by omega)).u (by omega)).u (by omega)).u (by omega)).u (by omega)
                have n1 : m7.1 1 = m6.1 1 := by rw [← hm7, zk_u_off (by omega), zk_u_off (by omega), zk_u_off (by omega), zk_u_off (by omega), zk_u_off (by omega), zk_u_off (by omega)]
                obtain ⟨T', hT'⟩ : ∃ T' : Nat → Nat → Nat, T' = setR (setR (setR (setR (setR (setR T 0 1 (T 0 1 + 1)) 4 (T 0 1) v1) 5 (T 0 1) v2) 6 (T 0 1) v3) 9 (T 0 1) v4) 10 (T 0 1) v5 := ⟨_, rfl⟩
                have e01 : T' 0 1 = T 0 1 + 1 := by rw [hT']; simp [setR]
                have eoth : ∀ a b, a ≠ 4 → a ≠ 5 → a ≠ 6 → a ≠ 9 → a ≠ 10 → (a ≠ 0 ∨ b ≠ 1) → T' a b = T a b := by
                  intro a b i1 i2 i3 i5 i6 i4
                  rw [hT', setR_ne i6, setR_ne i5, setR_ne i3, setR_ne i2, setR_ne i1]
                  rcases i4 with i4 | i4
                  · exact setR_ne i4
                  · exact setR_ne2 i4
                have eb : ∀ a b, b ≠ T 0 1 → (a ≠ 0) → T' a b = T a b := by
                  intro a b i1 i2
                  rw [hT', setR_ne2 i1, setR_ne2 i1, setR_ne2 i1, setR_ne2 i1, setR_ne2 i1, setR_ne i2]
                have e4n : T' 4 (T 0 1) = v1 := by rw [hT']; simp [setR]
                have e5n : T' 5 (T 0 1) = v2 := by rw [hT']; simp [setR]
                have e6n : T' 6 (T 0 1) = v3 := by rw [hT']; simp [setR]
                have e9n : T' 9 (T 0 1) = v4 := by rw [hT']; simp [setR]
                have e10n : T' 10 (T 0 1) = v5 := by rw [hT']; simp [setR]
                have e00 : T' 0 0 = T 0 0 := eoth 0 0 (by omega) (by omega) (by omega) (by omega) (by omega) (by omega)
                have e02 : T' 0 2 = T 0 2 := eoth 0 2 (by omega) (by omega) (by omega) (by omega) (by omega) (by omega)
                have ebg : ∀ b, T' 1 b = T 1 b ∧ T' 2 b = T 2 b ∧ T' 3 b = T 3 b := fun b => ⟨eoth 1 b (by omega) (by omega) (by omega) (by omega) (by omega) (by omega), eoth 2 b (by omega) (by omega) (by omega) (by omega) (by omega) (by omega), eoth 3 b (by omega) (by omega) (by omega) (by omega) (by omega) (by omega)⟩
                have ech : ∀ b, T' 7 b = T 7 b ∧ T' 8 b = T 8 b := fun b => ⟨eoth 7 b (by omega) (by omega) (by omega) (by omega) (by omega) (by omega), eoth 8 b (by omega) (by omega) (by omega) (by omega) (by omega) (by omega)⟩
                have hB' : ToB T' := by
                  refine ⟨⟨by omega, by omega, by omega, fun b hb => ?_, fun p hp => ?_, fun c hc => ?_⟩, fun p hp => ?_⟩
                  · rw [(ebg b).1, (ebg b).2.1, (ebg b).2.2]; exact t4 b (by omega)
                  · rw [e00]
                    by_cases cb : p = T 0 1
                    · rw [cb, e4n, e5n, e6n]; omega
                    · rw [eb 4 p cb (by omega), eb 5 p cb (by omega), eb 6 p cb (by omega)]; exact t5 p (by omega)
                  · rw [(ech c).1, (ech c).2]; exact t6 c (by omega)
                  · by_cases cb : p = T 0 1
                    · rw [cb, e9n, e10n]; omega
                    · rw [eb 9 p cb (by omega), eb 10 p cb (by omega)]; exact tE p (by omega)
                have hX7 : ToX T' m7 := by
                  rw [← hm7]
                  refine ⟨?_, by rw [zk_u_at, e01], ?_, fun b hb => ?_, fun p hp => ?_, fun c hc => ?_⟩
                  · rw [zk_u_ne (by omega), zk_u_off (by omega), zk_u_off (by omega), zk_u_off (by omega), zk_u_off (by omega), zk_u_off (by omega), e00]; exact hX6.1
                  · rw [zk_u_ne (by omega), zk_u_off (by omega), zk_u_off (by omega), zk_u_off (by omega), zk_u_off (by omega), zk_u_off (by omega), e02]; exact hX6.2.2.1
                  · simp (disch := omega) only [zk_u_off]
                    rw [(ebg b).1, (ebg b).2.1, (ebg b).2.2]
                    exact hX6.2.2.2.1 b (by omega)
                  · simp (disch := omega) only [zk_u_off]
                    by_cases cb : p = T 0 1
                    · rw [cb, e4n, e5n, e6n, e9n, e10n]
                      refine ⟨?_, zk_u_at, zk_u_at, ?_, zk_u_at⟩
                      · rw [zk_u_ne (by omega), zk_u_at]
                      · rw [zk_u_ne (by omega), zk_u_at]
                    · rw [eb 4 p cb (by omega), eb 5 p cb (by omega), eb 6 p cb (by omega), eb 9 p cb (by omega), eb 10 p cb (by omega)]
                      have h9 := hX6.2.2.2.2.1 p (by omega)
                      refine ⟨?_, ?_, ?_, ?_, ?_⟩
                      · rw [zk_u_ne (by omega), zk_u_ne (by omega)]; exact h9.1
                      · rw [zk_u_ne (by omega), zk_u_ne (by omega)]; exact h9.2.1
                      · rw [zk_u_ne (by omega)]; exact h9.2.2.1
                      · rw [zk_u_ne (by omega), zk_u_ne (by omega)]; exact h9.2.2.2.1
                      · rw [zk_u_ne (by omega), zk_u_ne (by omega)]; exact h9.2.2.2.2
                  · simp (disch := omega) only [zk_u_off]
                    rw [(ech c).1, (ech c).2]
                    exact hX6.2.2.2.2.2 c (by omega)
                have hM7 : ToM T' (zk_u z6 0 23 (jN (T 0 1 + 1))) := by
                  refine ⟨by rw [zk_u_ne (by omega), e00]; exact hM6.1, by rw [zk_u_at, e01], by rw [zk_u_ne (by omega), e02]; exact hM6.2.2.1, fun b hb => ?_, fun p hp => ?_, fun c hc => ?_⟩
                  · simp (disch := omega) only [zk_u_off]
                    rw [(ebg b).1, (ebg b).2.1, (ebg b).2.2]
                    exact hM6.2.2.2.1 b (by omega)
                  · simp (disch := omega) only [zk_u_off]
                    by_cases cb : p = T 0 1
                    · rw [cb, e4n, e5n, e6n, e9n, e10n]
                      exact ⟨w0, w1, w2, w3, c6⟩
                    · rw [eb 4 p cb (by omega), eb 5 p cb (by omega), eb 6 p cb (by omega), eb 9 p cb (by omega), eb 10 p cb (by omega)]
                      exact hM6.2.2.2.2.1 p (by omega)
                  · simp (disch := omega) only [zk_u_off]
                    rw [(ech c).1, (ech c).2]
                    exact hM6.2.2.2.2.2 c (by omega)
                obtain ⟨m8, z8, s8, tk8, v8, f8, g8, h8, P8⟩ := itemEnd ht hc7 hm6 hX7 h206 he6 (by rw [n1]; exact h26) h166 (by omega) hM7
                refine ⟨m7, m8, zk_u z8 0 23 (jN (T 0 1 + 1)), T', s8, tk8, v8, ?_, f8, ?_, hB', P8, by omega⟩
                · rw [hx0, hL17]
                  simp only [Option.bind_some, Sum.elim_inr, f6]
                  rw [q64, c59, if_pos k59.symm, htake]; rfl
                · rw [hrm, hgo, k3, st2, decide_eq_true c59]
                  simp only [zk_let, g8, Option.bind_some]
                  rw [h8, hM6.2.1, k1, jN_add]
              · left
                have hw20 : (zk_u z6 0 20 (jN 1)).1 0 20 = jN 1 := zk_u_at
                obtain ⟨w1, w2, w3⟩ := wrong (zk_u z6 0 20 (jN 1)) (hm6.f (by omega)) hw20
                refine mkFail P6 ?_ ?_ w1 (by rw [w2, zk_u_ne (by omega)]) w3
                · rw [hx0, hL17]
                  simp only [Option.bind_some, Sum.elim_inr, f6]
                  rw [q64, k59, if_neg (by rw [jN_eq (by omega) (by omega)]; exact c59)]
                · rw [hrm, hgo, k3, st2, decide_eq_false c59]
                  simp only [zk_let, mustF h206, Option.bind_some]
            · left
              have x5 := l17F (n := 495) f5 nof112 (show 4 < 5 by omega) (by omega) q54 (by omega) (fun h9 => by rw [hst _ 4 v5 tk5 (by omega) (by omega) q55 q5v h9]; congr 1; exact decide_eq_false (fun h8 => cc5 ⟨h9, h8⟩))
              have g6 := numF11 (k := jN (5 * T 0 1 + 4)) (lo := jN 0) (hi := jN 3) P5 (fun h9 => by rw [hin _ _ _ (q5v h9) (by omega) (by omega)]; exact decide_eq_false (fun h8 => cc5 ⟨h9, h8⟩))
              have hw20 : (zk_u z5 0 20 (jN 1)).1 0 20 = jN 1 := zk_u_at
              obtain ⟨w1, w2, w3⟩ := wrong (zk_u z5 0 20 (jN 1)) (hm5.f (by omega)) hw20
              refine mkFail P5 (by rw [hx0, x1, x2, x3, x4, x5]; rfl) (by rw [hrm, hm0, g2]; simp only [Option.bind_some]; rw [hcb]; simp only [decide_true, Bool.and_self, Option.bind_some, g3, hz29, hz3, g4, g5, g6, mustW hw20, zk_let]) w1 (by rw [w2, zk_u_ne (by omega)]) w3
          · left
            have x4 := l17F (n := 496) f4 nof112 (show 3 < 5 by omega) (by omega) q44 (by omega) (fun h9 => by rw [hst _ 3 v4 tk4 (by omega) (by omega) q45 q4v h9]; congr 1; exact decide_eq_false (fun h8 => cc4 ⟨h9, h8⟩))
            have g5 := numF11 (k := jN (5 * T 0 1 + 3)) (lo := jN 0) (hi := jN 3) P4 (fun h9 => by rw [hin _ _ _ (q4v h9) (by omega) (by omega)]; exact decide_eq_false (fun h8 => cc4 ⟨h9, h8⟩))
            have hw20 : (zk_u z4 0 20 (jN 1)).1 0 20 = jN 1 := zk_u_at
            obtain ⟨w1, w2, w3⟩ := wrong (zk_u z4 0 20 (jN 1)) (hm4.f (by omega)) hw20
            refine mkFail P4 (by rw [hx0, x1, x2, x3, x4]; rfl) (by rw [hrm, hm0, g2]; simp only [Option.bind_some]; rw [hcb]; simp only [decide_true, Bool.and_self, Option.bind_some, g3, hz29, hz3, g4, g5, rW11 hw20, mustW hw20, zk_let]) w1 (by rw [w2, zk_u_ne (by omega)]) w3
        · left
          have x3 := l17F (n := 497) f3 nof112 (show 2 < 5 by omega) (by omega) q34 (by omega) (fun h9 => by rw [hst _ 2 v3 tk3 (by omega) (by omega) q35 q3v h9]; congr 1; exact decide_eq_false (fun h8 => cc3 ⟨h9, h8⟩))
          have g4 := numF11 (k := jN (5 * T 0 1 + 2)) (lo := jN 1) (hi := jN 40) P3 (fun h9 => by rw [hin _ _ _ (q3v h9) (by omega) (by omega)]; exact decide_eq_false (fun h8 => cc3 ⟨h9, h8⟩))
          have hw20 : (zk_u z3 0 20 (jN 1)).1 0 20 = jN 1 := zk_u_at
          obtain ⟨w1, w2, w3⟩ := wrong (zk_u z3 0 20 (jN 1)) (hm3.f (by omega)) hw20
          refine mkFail P3 (by rw [hx0, x1, x2, x3]; rfl) (by rw [hrm, hm0, g2]; simp only [Option.bind_some]; rw [hcb]; simp only [decide_true, Bool.and_self, Option.bind_some, g3, hz29, hz3, g4, rW11 hw20, mustW hw20, zk_let]) w1 (by rw [w2, zk_u_ne (by omega)]) w3
      · left
        have hcf : (decide (tk2 = 1) && near T v1 v2) = false := by
          by_cases c : tk2 = 1
          · rw [decide_eq_true c, Bool.true_and]
            cases e9 : near T v1 v2
            · rfl
            · exact absurd ⟨c, e9⟩ cc2
          · rw [decide_eq_false c, Bool.false_and]
        rw [hcf] at hcb
        have x2 := l17F (n := 498) f2 nof112 (show 1 < 5 by omega) (by omega) q24 (by omega) (fun h9 => by
          rw [stand112b hB.1 hX2 (q25 h9) (q2v h9) a2 c1.2]
          cases e9 : near T v1 v2
          · rfl
          · exact absurd ⟨h9, e9⟩ cc2)
        have hw20 : (zk_u (zk_u z2 0 20 (jN 1)) 11 (5 * T 0 1 + 1) (z2.1 0 19)).1 0 20 = jN 1 := by rw [zk_u_off (by omega), zk_u_at]
        obtain ⟨w1, w2, w3⟩ := wrong (zk_u (zk_u z2 0 20 (jN 1)) 11 (5 * T 0 1 + 1) (z2.1 0 19)) ((hm2.f (by omega)).u (by omega)) hw20
        refine mkFail P2 (by rw [hx0, x1, x2]; rfl) (by rw [hrm, hm0, g2]; simp only [Option.bind_some]; rw [hcb]; simp only [Option.bind_some, mustF h202, rW11 hw20, mustW hw20, zk_let]) w1 (by rw [w2, zk_u_off (by omega), zk_u_ne (by omega)]) w3
    · left
      have x1 := l17F (n := 499) f1 nof112 (show 0 < 5 by omega) (by omega) q14 (by omega) (fun h9 => by rw [stand112a hB.1 hX1 (q15 h9) (q1v h9)]; congr 1; exact decide_eq_false (fun h8 => c1 ⟨h9, h8⟩))
      have g2 := numF11 (k := jN (5 * T 0 1)) (lo := jN 0) (hi := jN (T 0 0) - jN 1) P1 (fun h9 => by have := q1v h9; rw [in_K (by omega) (by omega)]; exact decide_eq_false (fun h8 => c1 ⟨h9, h8⟩))
      have hw : (zk_u (zk_row zem 0 u1) 0 20 (jN 1)).1 0 20 = jN 1 := zk_u_at
      have y18 : (zk_u (zk_row zem 0 u1) 0 20 (jN 1)).1 0 18 = jN (mk tk1) := by rw [zk_u_ne (by omega)]; exact q18
      have y21 : (zk_u (zk_row zem 0 u1) 0 20 (jN 1)).1 0 21 = jN (T 0 0) := by rw [zk_u_ne (by omega)]; exact hM1.1
      have y19 : (zk_u (zk_row zem 0 u1) 0 20 (jN 1)).1 0 19 = (zk_row zem 0 u1).1 0 19 := zk_u_ne (by omega)
      have hcb : (if (zk_u (zk_row zem 0 u1) 0 20 (jN 1)).1 0 18 = (2 : Int32) then (if zk_b (fMd_in ((zk_u (zk_row zem 0 u1) 0 20 (jN 1)).1 0 19) (0 : Int32) ((zk_u (zk_row zem 0 u1) 0 20 (jN 1)).1 0 21 - (1 : Int32))) = 0 then some false else (fMd_mayJoin (zk_u (zk_row zem 0 u1) 0 20 (jN 1)) ((zk_row zem 0 u1).1 0 19) ((zk_u (zk_row zem 0 u1) 0 20 (jN 1)).1 0 19)).bind (fun q8 => (if zk_b q8 = 0 then some false else some true))) else some false) = some false := by
        by_cases c : tk1 = 1
        · have hv9 := q1v c
          rw [y18, y21, y19, q19 c, c, k0, k1, k2, if_pos (show jN (mk 1) = jN 2 by decide), in_K (by omega) (by omega), decide_eq_false (fun h8 => c1 ⟨c, h8⟩)]
          rfl
        · rw [y18, k2, if_neg (fun h => c (mk_2 h q1t))]
      generalize hz9 : zk_u (zk_row zem 0 u1) 0 20 (jN 1) = z9 at *
      have hw20 : (zk_u z9 11 (5 * T 0 1 + 1) (z9.1 0 19)).1 0 20 = jN 1 := by rw [zk_u_off (by omega)]; exact hw
      obtain ⟨w1, w2, w3⟩ := wrong (zk_u z9 11 (5 * T 0 1 + 1) (z9.1 0 19)) ((by rw [← hz9]; exact hm1.f (by omega) : zFm z z9).u (by omega)) hw20
      refine mkFail P1 (by rw [hx0, x1]; rfl) (by rw [hrm, hm0, g2]; simp only [Option.bind_some]; rw [hcb]; simp only [Option.bind_some, mustW hw, rW11 hw20, mustW hw20, zk_let]) w1 (by rw [w2, zk_u_off (by omega), ← hz9, zk_u_ne (by omega)]) w3
  · left
    rw [decide_eq_false cB] at hroom hq1
    have hx0 : fScript_readItem mem = some (false, mem) := by
      unfold fScript_readItem
      simp only [zk_let, h4, hroom]
      rw [if_pos (by decide)]
    have hm0 : fMd_readItem zem = some (zk_u zem 0 20 (jN 1)) := by
      rw [hrm]
      unfold fMd_readPlank
      simp only [zk_let, hq1, mustF h20, Option.bind_some, zk_u_at]
      rw [if_neg (by decide)]; rfl
    exact mkFail P hx0 hm0 (hm.f (by omega)) (by rw [zk_u_ne (by omega)]) zk_u_at
