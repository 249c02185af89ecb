theorem child_item {L : Nat → Nat} {N s v : Nat} {T : Nat → Nat → Nat} {y z mem zem : zkM} (ht : Tx L N y z) (hB : ToB T) (P : Ph L N T y z mem zem s 99 v) : Fail N y z mem zem ∨ Good L N T y z mem zem := by
  obtain ⟨hc, hm, hX, hM, h20, ⟨e, he, h2, h16⟩, h3, h4, -, h17, h18, -, h19, hsN, -, -⟩ := id P
  obtain ⟨⟨t1, t2, t3, t4, t5, t6⟩, tE⟩ := id hB
  have h19' := h19 rfl
  have hrm : fMd_readItem zem = (fMd_readChild zem).bind (fun q8 => some q8) := by
    unfold fMd_readItem
    rw [h18, h19', k1, if_pos (show jN (mk 99) = jN 1 by decide)]
    simp only [zk_let]
    rw [if_neg (by decide), if_neg (by decide), if_pos k99.symm]
  have hroomG : ∀ m9 : zkM, m9.1 55 2 = jN (T 0 2) → fTree_hasRoomFor m9 (jN 99) = decide (T 0 2 < 5) := by
    intro m9 h9
    unfold fTree_hasRoomFor
    rw [if_neg (by decide), if_pos k99.symm, h9, k5]
    simp (disch := omega) only [jN_le]
    by_cases c : T 0 2 < 5
    · rw [if_neg (by omega), decide_eq_true c]
    · rw [if_pos (by omega), decide_eq_false c]
  have hroom := hroomG mem hX.2.2.1
  have hq1 : (if (5 : Int32) ≤ zem.1 0 25 then false else true) = decide (T 0 2 < 5) := by
    rw [hM.2.2.1, k5]
    simp (disch := omega) only [jN_le]
    by_cases c : T 0 2 < 5
    · rw [if_neg (by omega), decide_eq_true c]
    · rw [if_pos (by omega), decide_eq_false c]
  by_cases cB : T 0 2 < 5
  · rw [decide_eq_true cB] at hroom hq1
    obtain ⟨r1, u1, s1, tk1, v1, f1, g1, P1, hr1⟩ := adv ht hc hm hX hM h20 he h2 h16
    have hx0 : fScript_readItem mem = (fScript_readItem_L17 500 mem (jN 99) (jN 0)).bind (fun q2 => Sum.elim (fun y => some y) (fun q3 => (fScript_step q3).bind (fun q4 => (if (q4.1 1 4) = (59 : Int32) then (fTree_take_3 q4 (jN 99)).bind (fun q5 => some (true, q5)) else some (false, q4)))) q2) := by
      unfold fScript_readItem
      simp only [zk_let, h4, hroom]
      rw [if_neg (by decide), k0]
    have hm0 : fMd_readChild zem = (fMd_readInto_12 (zk_row zem 0 u1) (jN (2 * T 0 2)) (jN 1) (jN 9)).bind (fun q4 => (fMd_readInto_12 q4.2 (((2 : Int32) * (q4.2.1 0 25)) + (1 : Int32)) (jN 0) (jN 9)).bind (fun q5 => zk_let (if (q5.2.1 0 18) = (3 : Int32) then true else false) (fun q6 => (fMd_must q5.2 q6).bind (fun q8 => zk_let (zk_u q8 0 25 ((q8.1 0 25) + (1 : Int32))) (fun m9 => some m9))))) := by
      unfold fMd_readChild
      simp only [zk_let, hq1, mustT h20 g1, Option.bind_some]
      rw [P1.2.2.2.2.1, P1.2.2.2.1.2.2.1, k0, if_pos rfl]
      simp only [k1, k2, k3, k9, jN_mul, jN_add]
    have hst : ∀ (q : zkM) (i v tk : Nat), i < 2 → (tk = 1 → q.1 1 5 = jN v) → (tk = 1 → v ≤ 99) → tk = 1 → fScript_mayStand q (jN 99) (jN i) = some (decide (rlo 99 i ≤ v ∧ v ≤ rhi 99 i)) := fun q i v tk a b c d => stand99 a (b d) (c d)
    have hin : ∀ (v lo hi : Nat), v ≤ 99 → lo < 1000 → hi < 1000 → fMd_in (jN v) (jN lo) (jN hi) = decide (lo ≤ v ∧ v ≤ hi) := fun v lo hi a b c => in_jN (by omega) (by omega) (by omega)
    have wrong : ∀ zw : zkM, zFm z zw → zw.1 0 20 = jN 1 → zFm z (zk_u zw 0 25 (zw.1 0 25 + 1)) ∧ (zk_u zw 0 25 (zw.1 0 25 + 1)).1 0 17 = zw.1 0 17 ∧ (zk_u zw 0 25 (zw.1 0 25 + 1)).1 0 20 = jN 1 := fun zw a b => ⟨a.f (by omega), zk_u_ne (by omega), by rw [zk_u_ne (by omega)]; exact b⟩
    obtain ⟨-, hm1, -, -, -, -, -, q14, q15, -, -, -, -, -, q1t, q1v⟩ := id P1
    by_cases c1 : tk1 = 1 ∧ (1 ≤ v1 ∧ v1 ≤ 9)
    · have v1b := q1v c1.1
      obtain ⟨m2, z2, s2, tk2, v2, f2, g2, P2, a2, b2, c2, d2⟩ := num12 (i := 0) (k := 2 * T 0 2) (lo := jN 1) (hi := jN 9) ht P1 c1.1 (by rw [hin _ _ _ v1b (by omega) (by omega)]; exact decide_eq_true c1.2) (by omega) (by omega)
      have x1 := l17T (n := 499) f1 nof99 (show 0 < 2 by omega) (by omega) (by rw [q14, c1.1]) (q15 c1.1) (by rw [hst _ 0 v1 tk1 (by omega) q15 q1v c1.1]; congr 1; exact decide_eq_true c1.2)
      obtain ⟨-, hm2, -, hM2, -, -, -, q24, q25, -, -, -, -, -, q2t, q2v⟩ := id P2
      have hk2 : ((2 : Int32) * (z2.1 0 25)) + (1 : Int32) = jN (2 * T 0 2 + 1) := by rw [hM2.2.2.1, k1, k2, jN_mul, jN_add]
      by_cases cc2 : tk2 = 1 ∧ (0 ≤ v2 ∧ v2 ≤ 9)
      · have v2b := q2v cc2.1
        obtain ⟨m4, z4, s4, tk4, v4, f4, g4, P4, a4, b4, c4, d4⟩ := num12 (i := 1) (k := 2 * T 0 2 + 1) (lo := jN 0) (hi := jN 9) ht P2 cc2.1 (by rw [hin _ _ _ v2b (by omega) (by omega)]; exact decide_eq_true cc2.2) (by omega) (by omega)
        have x2 := l17T (n := 498) f2 nof99 (show 1 < 2 by omega) (by omega) (by rw [q24, cc2.1]) (q25 cc2.1) (by rw [hst _ 1 v2 tk2 (by omega) q25 q2v cc2.1]; congr 1; exact decide_eq_true cc2.2)
        have x4 := l17E (n := 497) (mem := zk_u m2 3 1 (jN v2)) nof99
        have hL17 : fScript_readItem_L17 500 mem (jN 99) (jN 0) = some (.inr (zk_u m2 3 1 (jN v2))) := x1.trans (x2.trans x4)
        obtain ⟨st1, st2⟩ := stop_step P4
        obtain ⟨hc4, hm4, hX4, hM4, h204, ⟨e4, he4, h24, h164⟩, -, q44, -, -, -, -, -, -, q4t, -⟩ := id P4
        by_cases c59 : tk4 = 59
        · right
          have l0 : m4.1 3 0 = jN v1 := by rw [b4 0 (by omega)]; exact a2
          have hroom4 : fTree_hasRoomFor m4 (jN 99) = true := by rw [hroomG m4 hX4.2.2.1]; exact decide_eq_true cB
          have htake : fTree_take_3 m4 (jN 99) = some (zk_u (zk_u (zk_u m4 62 (T 0 2) (jN v1)) 63 (T 0 2) (jN v2)) 55 2 (jN (T 0 2 + 1))) := by
            unfold fTree_take_3
            rw [hroom4, if_neg (by decide), if_neg (by decide), if_neg (by decide)]
            simp (disch := omega) only [zk_let, Option.bind_some, cond_true, cond_false, if_true, if_false, zbF, zbT, within_in, jn9, k0, k1, k2, k3, k4, k5, k6, k7, k8, k9, k10, k12, k16, k17, k20, k29, k30, k31, k32, k36, k40, k41, k42, k48, k57, k59, k60, k64, k98, k99, k100, k112, k128, k200, k255, k256, k378, k420, k999, k1000000, jN_add, jN_mul, jN_clamp, jN_inbT, Bool.false_eq_true, Bool.true_eq_false, hX4.2.2.1, l0, a4, zk_u_off, jN_clamp]
          generalize hm5 : zk_u (zk_u (zk_u m4 62 (T 0 2) (jN v1)) 63 (T 0 2) (jN v2)) 55 2 (jN (T 0 2 + 1)) = m5 at htake
          have hc5 : zFc y m5 := by rw [← hm5]; exact ((hc4.u (by omega)).u (by omega)).u (by omega)
          have n1 : m5.1 1 = m4.1 1 := by rw [← hm5, zk_u_off (by omega), zk_u_off (by omega), zk_u_off (by omega)]
          obtain ⟨T', hT'⟩ : ∃ T' : Nat → Nat → Nat, T' = setR (setR (setR T 0 2 (T 0 2 + 1)) 7 (T 0 2) v1) 8 (T 0 2) v2 := ⟨_, rfl⟩
          have e02 : T' 0 2 = T 0 2 + 1 := by rw [hT']; simp [setR]
          have eoth : ∀ a b, a ≠ 7 → a ≠ 8 → (a ≠ 0 ∨ b ≠ 2) → T' a b = T a b := by
            intro a b i1 i2 i4
            rw [hT', setR_ne i2, setR_ne i1]
            rcases i4 with i4 | i4
            · exact setR_ne i4
            · exact setR_ne2 i4
          have eb : ∀ a b, b ≠ T 0 2 → (a ≠ 0) → T' a b = T a b := by
            intro a b i1 i2
            rw [hT', setR_ne2 i1, setR_ne2 i1, setR_ne i2]
          have e7n : T' 7 (T 0 2) = v1 := by rw [hT']; simp [setR]
          have e8n : T' 8 (T 0 2) = v2 := by rw [hT']; simp [setR]
          have e00 : T' 0 0 = T 0 0 := eoth 0 0 (by omega) (by omega) (by omega)
          have e01 : T' 0 1 = T 0 1 := eoth 0 1 (by omega) (by omega) (by omega)
          have hB' : ToB T' := by
            refine ⟨⟨by omega, by omega, by omega, fun b hb => ?_, fun p hp => ?_, fun c hc => ?_⟩, fun p hp => ?_⟩
            · rw [eoth 1 b (by omega) (by omega) (by omega), eoth 2 b (by omega) (by omega) (by omega), eoth 3 b (by omega) (by omega) (by omega)]; exact t4 b (by omega)
            · rw [eoth 4 p (by omega) (by omega) (by omega), eoth 5 p (by omega) (by omega) (by omega), eoth 6 p (by omega) (by omega) (by omega), e00]
              exact t5 p (by omega)
            · by_cases cb : c = T 0 2
              · rw [cb, e7n, e8n]; omega
              · rw [eb 7 c cb (by omega), eb 8 c cb (by omega)]; exact t6 c (by omega)
            · rw [eoth 9 p (by omega) (by omega) (by omega), eoth 10 p (by omega) (by omega) (by omega)]
              exact tE p (by omega)
          have hX5 : ToX T' m5 := by
            rw [← hm5]
            refine ⟨?_, ?_, by rw [zk_u_at, e02], fun b hb => ?_, fun p hp => ?_, fun c hc => ?_⟩
            · rw [zk_u_ne (by omega), zk_u_off (by omega), zk_u_off (by omega), e00]; exact hX4.1
            · rw [zk_u_ne (by omega), zk_u_off (by omega), zk_u_off (by omega), e01]; exact hX4.2.1
            · simp (disch := omega) only [zk_u_off]
              rw [eoth 1 b (by omega) (by omega) (by omega), eoth 2 b (by omega) (by omega) (by omega), eoth 3 b (by omega) (by omega) (by omega)]
              exact hX4.2.2.2.1 b (by omega)
            · simp (disch := omega) only [zk_u_off]
              rw [eoth 4 p (by omega) (by omega) (by omega), eoth 5 p (by omega) (by omega) (by omega), eoth 6 p (by omega) (by omega) (by omega), eoth 9 p (by omega) (by omega) (by omega), eoth 10 p (by omega) (by omega) (by omega)]
              exact hX4.2.2.2.2.1 p (by omega)
            · simp (disch := omega) only [zk_u_off]
              by_cases cb : c = T 0 2
              · rw [cb, e7n, e8n, zk_u_at, zk_u_at]; exact ⟨rfl, rfl⟩
              · rw [zk_u_ne cb, zk_u_ne cb, eb 7 c cb (by omega), eb 8 c cb (by omega)]; exact hX4.2.2.2.2.2 c (by omega)
          have hM5 : ToM T' (zk_u z4 0 25 (jN (T 0 2 + 1))) := by
            refine ⟨by rw [zk_u_ne (by omega), e00]; exact hM4.1, by rw [zk_u_ne (by omega), e01]; exact hM4.2.1, by rw [zk_u_at, e02], fun b hb => ?_, fun p hp => ?_, fun c hc => ?_⟩
            · simp (disch := omega) only [zk_u_off]
              rw [eoth 1 b (by omega) (by omega) (by omega), eoth 2 b (by omega) (by omega) (by omega), eoth 3 b (by omega) (by omega) (by omega)]
              exact hM4.2.2.2.1 b (by omega)
            · simp (disch := omega) only [zk_u_off]
              rw [eoth 4 p (by omega) (by omega) (by omega), eoth 5 p (by omega) (by omega) (by omega), eoth 6 p (by omega) (by omega) (by omega), eoth 9 p (by omega) (by omega) (by omega), eoth 10 p (by omega) (by omega) (by omega)]
              exact hM4.2.2.2.2.1 p (by omega)
            · simp (disch := omega) only [zk_u_off]
              by_cases cb : c = T 0 2
              · rw [cb, e7n, e8n]
                refine ⟨?_, c4⟩
                rw [d4 _ (by omega)]; exact c2
              · rw [eb 7 c cb (by omega), eb 8 c cb (by omega)]; exact hM4.2.2.2.2.2 c (by omega)
          obtain ⟨m6, z6, s6, tk6, v6, f6, g6, h6, P6⟩ := itemEnd ht hc5 hm4 hX5 h204 he4 (by rw [n1]; exact h24) h164 (by omega) hM5
          refine ⟨m5, m6, zk_u z6 0 25 (jN (T 0 2 + 1)), T', s6, tk6, v6, ?_, f6, ?_, hB', P6, by omega⟩
          · rw [hx0, hL17]
            simp only [Option.bind_some, Sum.elim_inr, f4]
            rw [q44, c59, if_pos k59.symm, htake]; rfl
          · rw [hrm, hm0, g2]
            simp only [Option.bind_some, hk2, g4]
            rw [k3, st2, decide_eq_true c59]
            simp only [zk_let, g6, Option.bind_some]
            rw [h6, hM4.2.2.1, k1, jN_add]
        · left
          have hw20 : (zk_u z4 0 20 (jN 1)).1 0 20 = jN 1 := zk_u_at
          obtain ⟨w1, w2, w3⟩ := wrong (zk_u z4 0 20 (jN 1)) (hm4.f (by omega)) hw20
          refine mkFail P4 ?_ ?_ w1 (by rw [w2, zk_u_ne (by omega)]) w3
          · rw [hx0, hL17]
            simp only [Option.bind_some, Sum.elim_inr, f4]
            rw [q44, k59, if_neg (by rw [jN_eq (by omega) (by omega)]; exact c59)]
          · rw [hrm, hm0, g2]
            simp only [Option.bind_some, hk2, g4]
            rw [k3, st2, decide_eq_false c59]
            simp only [zk_let, mustF h204, Option.bind_some]
      · left
        have x2 := l17F (n := 498) f2 nof99 (show 1 < 2 by omega) (by omega) q24 (by omega) (fun h9 => by rw [hst _ 1 v2 tk2 (by omega) q25 q2v h9]; congr 1; exact decide_eq_false (fun h8 => cc2 ⟨h9, h8⟩))
        have g3 := numF12 (k := jN (2 * T 0 2 + 1)) (lo := jN 0) (hi := jN 9) P2 (fun h9 => by rw [hin _ _ _ (q2v h9) (by omega) (by omega)]; exact decide_eq_false (fun h8 => cc2 ⟨h9, h8⟩))
        have hw20 : (zk_u z2 0 20 (jN 1)).1 0 20 = jN 1 := zk_u_at
        obtain ⟨w1, w2, w3⟩ := wrong (zk_u z2 0 20 (jN 1)) (hm2.f (by omega)) hw20
        refine mkFail P2 (by rw [hx0, x1, x2]; rfl) (by rw [hrm, hm0, g2]; simp only [Option.bind_some, hk2, g3, mustW hw20, zk_let]) w1 (by rw [w2, zk_u_ne (by omega)]) w3
    · left
      have x1 := l17F (n := 499) f1 nof99 (show 0 < 2 by omega) (by omega) q14 (by omega) (fun h9 => by rw [hst _ 0 v1 tk1 (by omega) q15 q1v h9]; congr 1; exact decide_eq_false (fun h8 => c1 ⟨h9, h8⟩))
      have g2 := numF12 (k := jN (2 * T 0 2)) (lo := jN 1) (hi := jN 9) P1 (fun h9 => by rw [hin _ _ _ (q1v h9) (by omega) (by omega)]; exact decide_eq_false (fun h8 => c1 ⟨h9, h8⟩))
      have hw20 : (zk_u (zk_row zem 0 u1) 0 20 (jN 1)).1 0 20 = jN 1 := zk_u_at
      obtain ⟨w1, w2, w3⟩ := wrong (zk_u (zk_row zem 0 u1) 0 20 (jN 1)) (hm1.f (by omega)) hw20
      refine mkFail P1 (by rw [hx0, x1]; rfl) (by rw [hrm, hm0, g2]; simp only [Option.bind_some, rW12 hw20, mustW hw20, zk_let]) w1 (by rw [w2, zk_u_ne (by omega)]) w3
  · left
    rw [decide_eq_false cB] at hroom hq1
    have hx0 : fScript_readItem mem = some (false, mem) := by
      unfold fScript_readItem
      simp only [zk_let, h4, hroom]
      rw [if_pos (by decide)]
    have hm0 : fMd_readItem zem = some (zk_u zem 0 20 (jN 1)) := by
      rw [hrm]
      unfold fMd_readChild
      simp only [zk_let, hq1, mustF h20, Option.bind_some, zk_u_at]
      rw [if_neg (by decide)]; rfl
    exact mkFail P hx0 hm0 (hm.f (by omega)) (by rw [zk_u_ne (by omega)]) zk_u_at
