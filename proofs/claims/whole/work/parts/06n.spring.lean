theorem zSx.set1 {T R : Nat → Nat → Nat} {r : Nat → Int32} {e w : Nat} (hT : zTb T) (h : zSx T R r) (he : e < 2 * T 0 1) : zSx T (setR R 1 e w) (upd r (17 + e) (jN w)) := by
  have t1 := hT.2.1
  have t2 := hT.2.2.1
  refine ⟨by rw [setR_ne (by omega), upd_ne (by omega)]; exact h.1, fun c hc => by rw [setR_ne (by omega), upd_ne (by omega)]; exact h.2.1 c hc, fun f hf => ⟨?_, ?_, ?_⟩⟩
  · rw [setR_ne (by omega), upd_ne (by omega)]; exact (h.2.2 f hf).1
  · by_cases c : f = e
    · subst c; rw [setR_at, upd_same]
    · rw [setR_ne2 c, upd_ne (by omega)]; exact (h.2.2 f hf).2.1
  · rw [setR_ne (by omega), upd_ne (by omega)]; exact (h.2.2 f hf).2.2
theorem zSm.set1 {T R : Nat → Nat → Nat} {r : Nat → Int32} {e w : Nat} (hT : zTb T) (h : zSm T R r) (he : e < 2 * T 0 1) : zSm T (setR R 1 e w) (upd r (6 + 3 * e + 1) (jN w)) := by
  have t1 := hT.2.1
  have t2 := hT.2.2.1
  refine ⟨by rw [setR_ne (by omega), upd_ne (by omega)]; exact h.1, fun c hc => by rw [setR_ne (by omega), upd_ne (by omega)]; exact h.2.1 c hc, fun f hf => ⟨?_, ?_, ?_⟩⟩
  · rw [setR_ne (by omega), upd_ne (by omega)]; exact (h.2.2 f hf).1
  · by_cases c : f = e
    · subst c; rw [setR_at, show 7 + 3 * f = 6 + 3 * f + 1 by omega, upd_same]
    · rw [setR_ne2 c, upd_ne (by omega)]; exact (h.2.2 f hf).2.1
  · rw [setR_ne (by omega), upd_ne (by omega)]; exact (h.2.2 f hf).2.2
def spB (R : Nat → Nat → Nat) (e : Nat) : Bool := decide (R 0 e = 1 ∧ R 2 e = 0 ∧ 0 < R 1 e)
/-- in spring, the ENDS below k looked at -/
def spR (R : Nat → Nat → Nat) (k : Nat) : Nat → Nat → Nat := fun a b => if a = 1 ∧ b < k ∧ spB R b = true then R 1 b - 2 else R a b
theorem spR_0 (R : Nat → Nat → Nat) : spR R 0 = R := by funext a b; simp [spR]
theorem spR_in {R : Nat → Nat → Nat} {k : Nat} (h : spB R k = true) : spR R (k + 1) = setR (spR R k) 1 k (R 1 k - 2) := by
  funext a b
  unfold spR setR
  by_cases ha : a = 1
  · by_cases hb : b = k
    · subst hb; simp [ha, h]
    · have : (b < k + 1) = (b < k) := propext (by omega)
      simp [ha, hb, this]
  · simp [ha]
theorem spR_out {R : Nat → Nat → Nat} {k : Nat} (h : spB R k = false) : spR R (k + 1) = spR R k := by
  funext a b
  unfold spR
  by_cases hb : b = k
  · subst hb; simp [h]
  · have : (b < k + 1) = (b < k) := propext (by omega)
    simp [this]
theorem spR_at {R : Nat → Nat → Nat} {a k : Nat} : spR R k a k = R a k := by simp [spR]
theorem growX {T R : Nat → Nat → Nat} {y : zkM} (hT : zTb T) (hS : zSb T R) (hP : y.1 46 1 = jN (T 0 1)) (sx : zSx T R (y.1 5)) : ∃ q, fScene_growBark_L4 500 y (jN 0) (jN 0) = some q ∧ q.1 = jN (cnt (spB R) (2 * T 0 1)) ∧ ∃ r, q.2 = zk_row y 5 r ∧ zSx T (spR R (2 * T 0 1)) r := by
  have t1 := hT.2.1
  refine zl_loop (fun n (s : zkM × Int32 × Int32) => fScene_growBark_L4 n s.1 s.2.1 s.2.2) (fun k s => s.2.2 = jN k ∧ s.2.1 = jN (cnt (spB R) k) ∧ ∃ r, s.1 = zk_row y 5 r ∧ zSx T (spR R k) r) (2 * T 0 1) _ ?_ 500 (y, jN 0, jN 0) ⟨rfl, rfl, y.1 5, zk_row_self.symm, by rw [spR_0]; exact sx⟩ (by omega)
  rintro n k ⟨m, x2, x3⟩ hk ⟨e1, e2, r, e3, hr⟩
  dsimp only at e1 e2 e3
  subst e1; subst e2; subst e3
  dsimp only
  simp only [fScene_growBark_L4, fTree_ends]
  have hP1 : (zk_row y 5 r).1 46 1 = jN (T 0 1) := by rw [zk_row_off (by omega)]; exact hP
  simp only [hP1]
  by_cases ck : k = 2 * T 0 1
  · left
    refine ⟨(jN (cnt (spB R) k), zk_row y 5 r), ?_, by rw [ck], r, rfl, ck ▸ hr⟩
    simp (disch := omega) only [zk_let, Option.bind_some, cond_true, cond_false, if_true, if_false, zbF, zbT, within_in, jn9, k0, k1, k2, k3, k4, k5, k6, k7, k8, k9, k10, k12, k16, k17, k20, k29, k30, k31, k32, k36, k40, k41, k42, k48, k57, k59, k60, k64, k98, k99, k100, k112, k128, k200, k255, k256, k378, k420, k999, k1000000, jN_add, jN_mul, jN_clamp, jN_inbT, Bool.false_eq_true, Bool.true_eq_false, jN_le]
    rw [if_pos (by omega)]
  · right
    have hk2 : k < 2 * T 0 1 := by omega
    refine ⟨hk2, ?_⟩
    obtain ⟨r1, r2, r3⟩ := hr.2.2 k hk2
    rw [spR_at] at r1 r2 r3
    obtain ⟨b1, b2, b3, -⟩ := hS.2 k hk2
    have hb3 : fScene_isOut (zk_row y 5 r) (jN k) = some (decide (R 2 k = 1)) := isOut_spec (by omega) (by rw [zk_row_on]; exact r3) b3
    simp only [hb3]
    unfold fScene_kindOf fScene_wearOf
    simp (disch := omega) only [zk_let, Option.bind_some, cond_true, cond_false, if_true, if_false, zbF, zbT, within_in, jn9, k0, k1, k2, k3, k4, k5, k6, k7, k8, k9, k10, k12, k16, k17, k20, k29, k30, k31, k32, k36, k40, k41, k42, k48, k57, k59, k60, k64, k98, k99, k100, k112, k128, k200, k255, k256, k378, k420, k999, k1000000, jN_add, jN_mul, jN_clamp, jN_inbT, Bool.false_eq_true, Bool.true_eq_false, jN_le, zk_row_on, r1, r2, jN_eq]
    rw [if_neg (by omega)]
    by_cases c1 : spB R k = true
    · have c2 := c1
      unfold spB at c2
      simp only [decide_eq_true_eq] at c2
      refine ⟨(zk_row y 5 (upd r (17 + k) (jN (R 1 k - 2))), jN (cnt (spB R) (k + 1)), jN (k + 1)), ?_, rfl, rfl, _, rfl, by rw [spR_in c1]; exact hr.set1 hT hk2⟩
      have c3 : ¬ R 2 k = 1 := by omega
      have c4 : ¬ R 1 k ≤ 0 := by omega
      simp only [c2.1, c3, c4, decide_false, if_true, if_false, Option.bind_some, cnt, c1]
      rw [zk_u_row, zk_row_row, zk_row_on]
      have hmax : zk_max (jN 0) (jN (R 1 k) - jN 2) = jN (R 1 k - 2) := by
        unfold zk_max
        by_cases c5 : 2 ≤ R 1 k
        · rw [jN_sub c5]; simp (disch := omega) only [jN_lt]
          by_cases c6 : 0 < R 1 k - 2
          · rw [if_pos c6]
          · rw [if_neg c6]; congr 1; omega
        · rw [show R 1 k = 1 by omega]; decide
      rw [hmax]
    · have c1' : spB R k = false := by simpa using c1
      refine ⟨(zk_row y 5 r, jN (cnt (spB R) (k + 1)), jN (k + 1)), ?_, rfl, rfl, _, rfl, by rw [spR_out c1']; exact hr⟩
      have ce : cnt (spB R) (k + 1) = cnt (spB R) k := by simp [cnt, c1']
      unfold spB at c1'
      simp only [decide_eq_false_iff_not] at c1'
      rw [ce]
      by_cases d1 : R 0 k = 1
      · by_cases d2 : R 2 k = 1
        · simp [d1, d2]
        · have d3 : R 1 k ≤ 0 := by omega
          simp only [d1, d2, d3, decide_false, if_true, Option.bind_some]
      · simp [d1]
theorem growM {T R : Nat → Nat → Nat} {z : zkM} (hT : zTb T) (hS : zSb T R) (hP : z.1 0 2 = jN (T 0 1)) (sm : zSm T R (z.1 4)) : ∃ q, fMd_spring_L8 500 z (jN 0) (jN 0) = some q ∧ q.1 = jN (cnt (spB R) (2 * T 0 1)) ∧ ∃ r, q.2 = zk_row z 4 r ∧ zSm T (spR R (2 * T 0 1)) r := by
  have t1 := hT.2.1
  refine zl_loop (fun n (s : zkM × Int32 × Int32) => fMd_spring_L8 n s.1 s.2.1 s.2.2) (fun k s => s.2.2 = jN k ∧ s.2.1 = jN (cnt (spB R) k) ∧ ∃ r, s.1 = zk_row z 4 r ∧ zSm T (spR R k) r) (2 * T 0 1) _ ?_ 500 (z, jN 0, jN 0) ⟨rfl, rfl, z.1 4, zk_row_self.symm, by rw [spR_0]; exact sm⟩ (by omega)
  rintro n k ⟨m, x2, x3⟩ hk ⟨e1, e2, r, e3, hr⟩
  dsimp only at e1 e2 e3
  subst e1; subst e2; subst e3
  dsimp only
  simp only [fMd_spring_L8]
  have hP1 : (zk_row z 4 r).1 0 2 = jN (T 0 1) := by rw [zk_row_off (by omega)]; exact hP
  simp only [hP1]
  by_cases ck : k = 2 * T 0 1
  · left
    refine ⟨(jN (cnt (spB R) k), zk_row z 4 r), ?_, by rw [ck], r, rfl, ck ▸ hr⟩
    simp (disch := omega) only [zk_let, Option.bind_some, cond_true, cond_false, if_true, if_false, zbF, zbT, within_in, jn9, k0, k1, k2, k3, k4, k5, k6, k7, k8, k9, k10, k12, k16, k17, k20, k29, k30, k31, k32, k36, k40, k41, k42, k48, k57, k59, k60, k64, k98, k99, k100, k112, k128, k200, k255, k256, k378, k420, k999, k1000000, jN_add, jN_mul, jN_clamp, jN_inbT, Bool.false_eq_true, Bool.true_eq_false, jN_le]
    rw [if_pos (by omega)]
  · right
    have hk2 : k < 2 * T 0 1 := by omega
    refine ⟨hk2, ?_⟩
    obtain ⟨r1, r2, r3⟩ := hr.2.2 k hk2
    rw [spR_at] at r1 r2 r3
    rw [show 7 + 3 * k = 6 + 3 * k + 1 by omega] at r2
    rw [show 8 + 3 * k = 6 + 3 * k + 2 by omega] at r3
    obtain ⟨b1, b2, b3, -⟩ := hS.2 k hk2
    simp (disch := omega) only [zk_let, Option.bind_some, cond_true, cond_false, if_true, if_false, zbF, zbT, within_in, jn9, k0, k1, k2, k3, k4, k5, k6, k7, k8, k9, k10, k12, k16, k17, k20, k29, k30, k31, k32, k36, k40, k41, k42, k48, k57, k59, k60, k64, k98, k99, k100, k112, k128, k200, k255, k256, k378, k420, k999, k1000000, jN_add, jN_mul, jN_clamp, jN_inbT, Bool.false_eq_true, Bool.true_eq_false, jN_le, zk_row_on, r1, r2, r3, jN_eq]
    rw [if_neg (by omega)]
    by_cases c1 : spB R k = true
    · have c2 := c1
      unfold spB at c2
      simp only [decide_eq_true_eq] at c2
      refine ⟨(zk_row z 4 (upd r (6 + 3 * k + 1) (jN (R 1 k - 2))), jN (cnt (spB R) (k + 1)), jN (k + 1)), ?_, rfl, rfl, _, rfl, by rw [spR_in c1]; exact hr.set1 hT hk2⟩
      have c4 : ¬ R 1 k ≤ 0 := by omega
      simp only [c2.1, c2.2.1, c4, if_true, if_false, cnt, c1]
      by_cases c5 : R 1 k ≤ 2
      · simp only [c5, if_true, Option.bind_some]
        rw [zk_u_row, zk_row_row, zk_row_on, show R 1 k - 2 = 0 by omega]
      · simp only [c5, if_false, Option.bind_some]
        rw [zk_u_row, zk_row_row, zk_row_on, jN_sub (by omega)]
    · have c1' : spB R k = false := by simpa using c1
      refine ⟨(zk_row z 4 r, jN (cnt (spB R) (k + 1)), jN (k + 1)), ?_, rfl, rfl, _, rfl, by rw [spR_out c1']; exact hr⟩
      have ce : cnt (spB R) (k + 1) = cnt (spB R) k := by simp [cnt, c1']
      unfold spB at c1'
      simp only [decide_eq_false_iff_not] at c1'
      rw [ce]
      by_cases d1 : R 0 k = 1
      · by_cases d2 : R 2 k = 0
        · have d3 : R 1 k ≤ 0 := by omega
          simp only [d1, d2, d3, if_true, Option.bind_some]
        · simp only [d1, d2, if_true, if_false, Option.bind_some]
      · simp [d1]
theorem spR_b {T R : Nat → Nat → Nat} {K : Nat} (h : zSb T R) : zSb T (spR R K) := by
  refine ⟨by simp [spR]; exact h.1, fun e he => ?_⟩
  obtain ⟨b1, b2, b3, b4⟩ := h.2 e he
  have e0 : spR R K 0 e = R 0 e := by simp [spR]
  have e2 : spR R K 2 e = R 2 e := by simp [spR]
  have e1 : spR R K 1 e ≤ R 1 e := by unfold spR; split <;> omega
  rw [e0, e2]
  exact ⟨b1, by omega, b3, fun h0 => by have := b4 h0; omega⟩
theorem pr_spring {y z : zkM} (h : zRel y z) : ∃ v y' z', sX_spring y v y' ∧ sM_spring z v z' ∧ zRel y' z' := by
  obtain ⟨T, R, hA⟩ := h.all
  obtain ⟨y1, z1, r1, r2, hA1⟩ := hA.rem
  obtain ⟨h1, h2, h3, h4, h5, h6, -⟩ := id hA1
  obtain ⟨⟨v1, m1⟩, e1, e2, r, e3, hr⟩ := growX h1 h4 h2.2.1 h5
  obtain ⟨⟨v2, m2⟩, g1, g2, t, g3, ht⟩ := growM h1 h4 h3.2.1 h6
  dsimp only at e2 e3 g2 g3
  subst e2 e3 g2 g3
  refine ⟨jN (cnt (spB R) (2 * T 0 1)), _, _, ?_, ?_, (hA1.scene (spR_b h4) hr ht).rel⟩
  · unfold sX_spring fTp_spring fScene_growBark
    rw [r1, k0]; simp only [Option.bind_some, e1]
  · unfold sM_spring fMd_spring
    rw [r2, k0]; simp only [Option.bind_some, g1]
