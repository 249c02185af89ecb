/-! which ENDS are out -/
def oB (R : Nat → Nat → Nat) (e : Nat) : Bool := decide (R 2 e = 1)
theorem isOut_spec {y : zkM} {e v : Nat} (he : e < 12) (h : y.1 5 (29 + e) = jN v) (hv : v ≤ 1) : fScene_isOut y (jN e) = some (decide (v = 1)) := by
  unfold fScene_isOut
  simp (disch := omega) only [zk_let, Option.bind_some, cond_true, cond_false, if_true, if_false, zbF, zbT, within_in, jn9, k0, k1, k2, k3, k4, k5, k6, k7, k8, k9, k10, k12, k16, k17, k20, k29, k30, k31, k32, k36, k40, k41, k42, k48, k57, k59, k60, k64, k98, k99, k100, k112, k128, k200, k255, k256, k378, k420, k999, k1000000, jN_add, jN_mul, jN_clamp, jN_inbT, Bool.false_eq_true, Bool.true_eq_false, h, jN_eq]
  by_cases c : v = 0
  · subst c; simp
  · rw [show v = 1 by omega]; simp
theorem outBits_spec {y : zkM} {P : Nat} {o : Nat → Nat} (hP : y.1 46 1 = jN P) (h6 : P ≤ 6) (h : ∀ e, e < 2 * P → y.1 5 (29 + e) = jN (o e) ∧ o e ≤ 1) : fScene_outBits y = some (jN (bs (fun e => decide (o e = 1)) (2 * P))) := by
  unfold fScene_outBits
  have := zl_eq (fun n (s : Int32 × Int32) => fScene_outBits_L4 n y s.1 s.2) (fun k => (jN (bs (fun e => decide (o e = 1)) k), jN k)) (2 * P) (jN (bs (fun e => decide (o e = 1)) (2 * P))) ?_ ?_ 500 (by omega)
  · rw [k0]; dsimp only at this; rw [show bs (fun e => decide (o e = 1)) 0 = 0 from rfl] at this; rw [this]; rfl
  · intro n k hk
    simp only [fScene_outBits_L4, fTree_ends]
    rw [isOut_spec (by omega) (h k hk).1 (h k hk).2]
    simp (disch := omega) only [zk_let, Option.bind_some, cond_true, cond_false, if_true, if_false, zbF, zbT, within_in, jn9, k0, k1, k2, k3, k4, k5, k6, k7, k8, k9, k10, k12, k16, k17, k20, k29, k30, k31, k32, k36, k40, k41, k42, k48, k57, k59, k60, k64, k98, k99, k100, k112, k128, k200, k255, k256, k378, k420, k999, k1000000, jN_add, jN_mul, jN_clamp, jN_inbT, Bool.false_eq_true, Bool.true_eq_false, hP, jN_le]
    rw [if_neg (by omega)]
    by_cases c : o k = 1
    · have c1 : decide (o k = 1) = true := by simp [c]
      simp only [c1, Bool.true_eq_false, if_false]
      rw [bs_in (f := fun e => decide (o e = 1)) (by omega) c1]
    · have c1 : decide (o k = 1) = false := by simp [c]
      simp only [c1, if_true]
      rw [bs_out (f := fun e => decide (o e = 1)) c1]
  · intro n
    simp only [fScene_outBits_L4, fTree_ends]
    simp (disch := omega) only [zk_let, Option.bind_some, cond_true, cond_false, if_true, if_false, zbF, zbT, within_in, jn9, k0, k1, k2, k3, k4, k5, k6, k7, k8, k9, k10, k12, k16, k17, k20, k29, k30, k31, k32, k36, k40, k41, k42, k48, k57, k59, k60, k64, k98, k99, k100, k112, k128, k200, k255, k256, k378, k420, k999, k1000000, jN_add, jN_mul, jN_clamp, jN_inbT, Bool.false_eq_true, Bool.true_eq_false, hP, jN_le]
    rw [if_pos (by omega)]
theorem isOutL_spec {y : zkM} {e v : Nat} (he : e < 12) (h : y.1 40 (29 + e) = jN v) (hv : v ≤ 1) : fScene_isOutL y (jN e) = some (decide (v = 1)) := by
  unfold fScene_isOutL
  simp (disch := omega) only [zk_let, Option.bind_some, cond_true, cond_false, if_true, if_false, zbF, zbT, within_in, jn9, k0, k1, k2, k3, k4, k5, k6, k7, k8, k9, k10, k12, k16, k17, k20, k29, k30, k31, k32, k36, k40, k41, k42, k48, k57, k59, k60, k64, k98, k99, k100, k112, k128, k200, k255, k256, k378, k420, k999, k1000000, jN_add, jN_mul, jN_clamp, jN_inbT, Bool.false_eq_true, Bool.true_eq_false, h, jN_eq]
  by_cases c : v = 0
  · subst c; simp
  · rw [show v = 1 by omega]; simp
theorem outBitsL_spec {y : zkM} {P : Nat} {o : Nat → Nat} (hP : y.1 46 1 = jN P) (h6 : P ≤ 6) (h : ∀ e, e < 2 * P → y.1 40 (29 + e) = jN (o e) ∧ o e ≤ 1) : fScene_outBitsL y = some (jN (bs (fun e => decide (o e = 1)) (2 * P))) := by
  unfold fScene_outBitsL
  have := zl_eq (fun n (s : Int32 × Int32) => fScene_outBitsL_L4 n y s.1 s.2) (fun k => (jN (bs (fun e => decide (o e = 1)) k), jN k)) (2 * P) (jN (bs (fun e => decide (o e = 1)) (2 * P))) ?_ ?_ 500 (by omega)
  · rw [k0]; dsimp only at this; rw [show bs (fun e => decide (o e = 1)) 0 = 0 from rfl] at this; rw [this]; rfl
  · intro n k hk
    simp only [fScene_outBitsL_L4, fTree_ends]
    rw [isOutL_spec (by omega) (h k hk).1 (h k hk).2]
    simp (disch := omega) only [zk_let, Option.bind_some, cond_true, cond_false, if_true, if_false, zbF, zbT, within_in, jn9, k0, k1, k2, k3, k4, k5, k6, k7, k8, k9, k10, k12, k16, k17, k20, k29, k30, k31, k32, k36, k40, k41, k42, k48, k57, k59, k60, k64, k98, k99, k100, k112, k128, k200, k255, k256, k378, k420, k999, k1000000, jN_add, jN_mul, jN_clamp, jN_inbT, Bool.false_eq_true, Bool.true_eq_false, hP, jN_le]
    rw [if_neg (by omega)]
    by_cases c : o k = 1
    · have c1 : decide (o k = 1) = true := by simp [c]
      simp only [c1, Bool.true_eq_false, if_false]
      rw [bs_in (f := fun e => decide (o e = 1)) (by omega) c1]
    · have c1 : decide (o k = 1) = false := by simp [c]
      simp only [c1, if_true]
      rw [bs_out (f := fun e => decide (o e = 1)) c1]
  · intro n
    simp only [fScene_outBitsL_L4, fTree_ends]
    simp (disch := omega) only [zk_let, Option.bind_some, cond_true, cond_false, if_true, if_false, zbF, zbT, within_in, jn9, k0, k1, k2, k3, k4, k5, k6, k7, k8, k9, k10, k12, k16, k17, k20, k29, k30, k31, k32, k36, k40, k41, k42, k48, k57, k59, k60, k64, k98, k99, k100, k112, k128, k200, k255, k256, k378, k420, k999, k1000000, jN_add, jN_mul, jN_clamp, jN_inbT, Bool.false_eq_true, Bool.true_eq_false, hP, jN_le]
    rw [if_pos (by omega)]
theorem outs_spec {y : zkM} {P : Nat} {o : Nat → Nat} (hP : y.1 46 1 = jN P) (h6 : P ≤ 6) (h : ∀ e, e < 2 * P → y.1 5 (29 + e) = jN (o e) ∧ o e ≤ 1) : fScene_outs y = some (jN (cnt (fun e => decide (o e = 1)) (2 * P))) := by
  unfold fScene_outs
  rw [outBits_spec hP h6 h]
  simp only [Option.bind_some]
  rw [bitCount_bs (by omega)]
theorem outsM_spec {z : zkM} {P : Nat} {o : Nat → Nat} (hP : z.1 0 2 = jN P) (h6 : P ≤ 6) (h : ∀ e, e < 2 * P → z.1 4 (8 + 3 * e) = jN (o e) ∧ o e ≤ 1) : fMd_outs_4 z (jN 6) = some (jN (cnt (fun e => decide (o e = 1)) (2 * P))) := by
  unfold fMd_outs_4
  have := zl_eq (fun n (s : Int32 × Int32) => fMd_outs_4_L5 n z (jN 6) s.1 s.2) (fun k => (jN (cnt (fun e => decide (o e = 1)) k), jN k)) (2 * P) (jN (cnt (fun e => decide (o e = 1)) (2 * P))) ?_ ?_ 500 (by omega)
  · rw [k0]; dsimp only at this; rw [show cnt (fun e => decide (o e = 1)) 0 = 0 from rfl] at this; rw [this]; rfl
  · intro n k hk
    simp only [fMd_outs_4_L5]
    simp (disch := omega) only [zk_let, Option.bind_some, cond_true, cond_false, if_true, if_false, zbF, zbT, within_in, jn9, k0, k1, k2, k3, k4, k5, k6, k7, k8, k9, k10, k12, k16, k17, k20, k29, k30, k31, k32, k36, k40, k41, k42, k48, k57, k59, k60, k64, k98, k99, k100, k112, k128, k200, k255, k256, k378, k420, k999, k1000000, jN_add, jN_mul, jN_clamp, jN_inbT, Bool.false_eq_true, Bool.true_eq_false, hP, jN_le]
    rw [if_neg (by omega), show 6 + 3 * k + 2 = 8 + 3 * k by omega, (h k hk).1, jN_add]
    congr 2
    simp only [cnt]
    have := (h k hk).2
    by_cases c : o k = 1
    · simp [c]
    · simp [c]; omega
  · intro n
    simp only [fMd_outs_4_L5]
    simp (disch := omega) only [zk_let, Option.bind_some, cond_true, cond_false, if_true, if_false, zbF, zbT, within_in, jn9, k0, k1, k2, k3, k4, k5, k6, k7, k8, k9, k10, k12, k16, k17, k20, k29, k30, k31, k32, k36, k40, k41, k42, k48, k57, k59, k60, k64, k98, k99, k100, k112, k128, k200, k255, k256, k378, k420, k999, k1000000, jN_add, jN_mul, jN_clamp, jN_inbT, Bool.false_eq_true, Bool.true_eq_false, hP, jN_le]
    rw [if_pos (by omega)]
theorem zAll.outsX {T R : Nat → Nat → Nat} {y z : zkM} (h : zAll T R y z) : fScene_outs y = some (jN (cnt (oB R) (2 * T 0 1))) := by
  obtain ⟨h1, h2, h3, h4, h5, h6, -⟩ := h
  exact outs_spec h2.2.1 h1.2.1 (fun e he => ⟨(h5.2.2 e he).2.2, (h4.2 e he).2.2.1⟩)
theorem zAll.outsM {T R : Nat → Nat → Nat} {y z : zkM} (h : zAll T R y z) : fMd_outs_4 z (jN 6) = some (jN (cnt (oB R) (2 * T 0 1))) := by
  obtain ⟨h1, h2, h3, h4, h5, h6, -⟩ := h
  exact outsM_spec h3.2.1 h1.2.1 (fun e he => ⟨(h6.2.2 e he).2.2, (h4.2 e he).2.2.1⟩)
theorem pr_count {y z : zkM} (h : zRel y z) (a1 : Int32) : ∃ v y' z', sX_count y a1 v y' ∧ sM_count z a1 v z' ∧ zRel y' z' := by
  obtain ⟨T, R, hA⟩ := h.all
  obtain ⟨h1, h2, h3, h4, h5, h6, h7, h8, ⟨K, hK, e1, e2, -⟩, ⟨N, hN, e3, e4, -⟩, h11⟩ := id hA
  unfold sX_count sM_count fTp_count fMd_count
  rw [h2.1, h2.2.1, h2.2.2.1, h3.1, h3.2.1, h3.2.2.1, e1, e2, e3, e4, hA.outsX, k6, hA.outsM]
  have : ∃ v, (if a1 = (0 : Int32) then some (jN (T 0 0)) else (if a1 = (1 : Int32) then some (jN (T 0 1)) else (if a1 = (2 : Int32) then some (jN (T 0 2)) else (if a1 = (3 : Int32) then some (iI K) else (if a1 = (4 : Int32) then (some (jN (cnt (oB R) (2 * T 0 1)))).bind (fun q6 => some q6) else (if a1 = (5 : Int32) then some (iI N) else some (-1 : Int32))))))) = some v := by
    simp only [Option.bind_some]
    repeat' split
    all_goals exact ⟨_, rfl⟩
  obtain ⟨v, hv⟩ := this
  exact ⟨v, y, z, ⟨hv, rfl⟩, ⟨hv, rfl⟩, h⟩
theorem zAll.bodies {T R : Nat → Nat → Nat} {y z : zkM} (h : zAll T R y z) (a : Int64) : zAll T R (zk_ul y 0 12 (y.2 0 12 + a)) (zk_ul z 0 13 (z.2 0 13 + a)) := by
  obtain ⟨h1, h2, h3, h4, h5, h6, h7, h8, h9, h10, h11⟩ := h
  exact ⟨h1, h2, h3, h4, h5, h6, h7, h8, h9, h10, by simp [zk_ul, h11]⟩
theorem zAll.rateChild {T R : Nat → Nat → Nat} {y z : zkM} (h : zAll T R y z) {c : Nat} (hc : c < T 0 2) : ∃ y' z', fTp_rateChild y (jN c) = some (jN (T 7 c), y') ∧ fMd_childRate z (jN c) = some (jN (T 7 c), z') ∧ zAll T R y' z' := by
  have hb := h.bodies 1
  obtain ⟨h1, h2, h3, h4, h5, h6, h7, h8, h9, h10, h11⟩ := id hb
  have t3 := h1.2.2.1
  refine ⟨_, _, ?_, ?_, hb⟩
  · unfold fTp_rateChild
    simp (disch := omega) only [zk_let, Option.bind_some, cond_true, cond_false, if_true, if_false, zbF, zbT, within_in, jn9, k0, k1, k2, k3, k4, k5, k6, k7, k8, k9, k10, k12, k16, k17, k20, k29, k30, k31, k32, k36, k40, k41, k42, k48, k57, k59, k60, k64, k98, k99, k100, k112, k128, k200, k255, k256, k378, k420, k999, k1000000, jN_add, jN_mul, jN_clamp, jN_inbT, Bool.false_eq_true, Bool.true_eq_false, (h2.2.2.2.2.2 c hc).1]
  · unfold fMd_childRate
    simp (disch := omega) only [zk_let, Option.bind_some, cond_true, cond_false, if_true, if_false, zbF, zbT, within_in, jn9, k0, k1, k2, k3, k4, k5, k6, k7, k8, k9, k10, k12, k16, k17, k20, k29, k30, k31, k32, k36, k40, k41, k42, k48, k57, k59, k60, k64, k98, k99, k100, k112, k128, k200, k255, k256, k378, k420, k999, k1000000, jN_add, jN_mul, jN_clamp, jN_inbT, Bool.false_eq_true, Bool.true_eq_false, (h3.2.2.2.2.2 c hc).1]
theorem zAll.rateGuest {T R : Nat → Nat → Nat} {y z : zkM} (h : zAll T R y z) {c : Nat} (hc : c < T 0 2) : ∃ v y' z', fTp_rateGuest y (jN c) = some (v, y') ∧ fMd_guestRate z (jN c) = some (v, z') ∧ zAll T R y' z' := by
  have hb := h.bodies 100
  obtain ⟨y1, z1, e1, e2, hA⟩ := hb.rateChild hc
  obtain ⟨h1, h2, h3, h4, h5, h6, h7, h8, h9, h10, h11⟩ := id hA
  have t3 := h1.2.2.1
  refine ⟨jN (T 7 c) - jN (T 8 c), y1, z1, ?_, ?_, hA⟩
  · unfold fTp_rateGuest
    simp (disch := omega) only [zk_let, Option.bind_some, cond_true, cond_false, if_true, if_false, zbF, zbT, within_in, jn9, k0, k1, k2, k3, k4, k5, k6, k7, k8, k9, k10, k12, k16, k17, k20, k29, k30, k31, k32, k36, k40, k41, k42, k48, k57, k59, k60, k64, k98, k99, k100, k112, k128, k200, k255, k256, k378, k420, k999, k1000000, jN_add, jN_mul, jN_clamp, jN_inbT, Bool.false_eq_true, Bool.true_eq_false, e1, (h2.2.2.2.2.2 c hc).2]
  · unfold fMd_guestRate
    simp (disch := omega) only [zk_let, Option.bind_some, cond_true, cond_false, if_true, if_false, zbF, zbT, within_in, jn9, k0, k1, k2, k3, k4, k5, k6, k7, k8, k9, k10, k12, k16, k17, k20, k29, k30, k31, k32, k36, k40, k41, k42, k48, k57, k59, k60, k64, k98, k99, k100, k112, k128, k200, k255, k256, k378, k420, k999, k1000000, jN_add, jN_mul, jN_clamp, jN_inbT, Bool.false_eq_true, Bool.true_eq_false, e2, (h3.2.2.2.2.2 c hc).2]
theorem zAll.rateClimber {T R : Nat → Nat → Nat} {y z : zkM} (h : zAll T R y z) {c : Nat} (hc : c < T 0 2) : ∃ v y' z', fTp_rateClimber y (jN c) = some (v, y') ∧ fMd_climberRate z (jN c) = some (v, z') ∧ zAll T R y' z' := by
  have hb := h.bodies 10
  obtain ⟨y1, z1, e1, e2, hA⟩ := hb.rateChild hc
  obtain ⟨g1, g2, g3, g4, g5, g6, -⟩ := id hb
  obtain ⟨h1, h2, h3, h4, h5, h6, h7, h8, h9, h10, h11⟩ := id hA
  have t2 := h1.2.1
  have t3 := h1.2.2.1
  have t0 := h1.1
  unfold fTp_rateClimber fMd_climberRate fScene_plankUnder fTp_isPlank
  simp (disch := omega) only [zk_let, Option.bind_some, cond_true, cond_false, if_true, if_false, zbF, zbT, within_in, jn9, k0, k1, k2, k3, k4, k5, k6, k7, k8, k9, k10, k12, k16, k17, k20, k29, k30, k31, k32, k36, k40, k41, k42, k48, k57, k59, k60, k64, k98, k99, k100, k112, k128, k200, k255, k256, k378, k420, k999, k1000000, jN_add, jN_mul, jN_clamp, jN_inbT, Bool.false_eq_true, Bool.true_eq_false, g5.2.1 c hc, g6.2.1 c hc, g2.2.1, e2]
  have hin := zOn_in (T := T) (n := R 3 c) t2
  simp only [hin]
  by_cases hp : R 3 c < T 0 1
  · have b := h1.2.2.2.2.1 _ hp
    refine ⟨jN (T 7 c) + jN (T 1 (T 4 (R 3 c))), y1, z1, ?_, ?_, hA⟩
    · simp only [hp, decide_true, Bool.true_eq_false, if_false]
      rw [show zOn T (R 3 c) = jN (R 3 c) from if_pos hp]
      simp (disch := omega) only [zk_let, Option.bind_some, cond_true, cond_false, if_true, if_false, zbF, zbT, within_in, jn9, k0, k1, k2, k3, k4, k5, k6, k7, k8, k9, k10, k12, k16, k17, k20, k29, k30, k31, k32, k36, k40, k41, k42, k48, k57, k59, k60, k64, k98, k99, k100, k112, k128, k200, k255, k256, k378, k420, k999, k1000000, jN_add, jN_mul, jN_clamp, jN_inbT, Bool.false_eq_true, Bool.true_eq_false, (g2.2.2.2.2.1 _ hp).1, (g2.2.2.2.1 _ b.1).1, e1]
    · rw [show zOn T (R 3 c) = jN (R 3 c) from if_pos hp, if_neg (jN_no (by omega))]
      simp (disch := omega) only [zk_let, Option.bind_some, cond_true, cond_false, if_true, if_false, zbF, zbT, within_in, jn9, k0, k1, k2, k3, k4, k5, k6, k7, k8, k9, k10, k12, k16, k17, k20, k29, k30, k31, k32, k36, k40, k41, k42, k48, k57, k59, k60, k64, k98, k99, k100, k112, k128, k200, k255, k256, k378, k420, k999, k1000000, jN_add, jN_mul, jN_clamp, jN_inbT, Bool.false_eq_true, Bool.true_eq_false, (h3.2.2.2.2.1 _ hp).1, (h3.2.2.2.1 _ b.1).1]
  · refine ⟨jN (T 7 c) + jN 0, y1, z1, ?_, ?_, hA⟩
    · simp (disch := omega) only [zk_let, Option.bind_some, cond_true, cond_false, if_true, if_false, zbF, zbT, within_in, jn9, k0, k1, k2, k3, k4, k5, k6, k7, k8, k9, k10, k12, k16, k17, k20, k29, k30, k31, k32, k36, k40, k41, k42, k48, k57, k59, k60, k64, k98, k99, k100, k112, k128, k200, k255, k256, k378, k420, k999, k1000000, jN_add, jN_mul, jN_clamp, jN_inbT, Bool.false_eq_true, Bool.true_eq_false, hp, decide_false, e1]
    · rw [show zOn T (R 3 c) = jNo from if_neg hp, if_pos rfl]
      simp (disch := omega) only [zk_let, Option.bind_some, cond_true, cond_false, if_true, if_false, zbF, zbT, within_in, jn9, k0, k1, k2, k3, k4, k5, k6, k7, k8, k9, k10, k12, k16, k17, k20, k29, k30, k31, k32, k36, k40, k41, k42, k48, k57, k59, k60, k64, k98, k99, k100, k112, k128, k200, k255, k256, k378, k420, k999, k1000000, jN_add, jN_mul, jN_clamp, jN_inbT, Bool.false_eq_true, Bool.true_eq_false]
theorem pr_rate {y z : zkM} (h : zRel y z) (a1 : Int32) (a2 : Int32) : ∃ v y' z', sX_rate y a1 a2 v y' ∧ sM_rate z a1 a2 v z' ∧ zRel y' z' := by
  obtain ⟨T, R, hA⟩ := h.all
  obtain ⟨h1, h2, h3, h4, h5, h6, h7, h8, h9, h10, h11⟩ := id hA
  have t3 := h1.2.2.1
  unfold sX_rate sM_rate fTp_rate fMd_rate fTp_isChild fMd_isChild
  simp only [within_in, h2.2.2.1, h3.2.2.1, zbF, k0, k1, k2, k3, k4, k5, k6, k7, k8, k9, k10, k12, k16, k17, k20, k29, k30, k31, k32, k36, k40, k41, k42, k48, k57, k59, k60, k64, k98, k99, k100, k112, k128, k200, k255, k256, k378, k420, k999, k1000000]
  rcases in_lt a2 (K := T 0 2) (by omega) with ⟨hw, c, hc, rfl⟩ | ⟨hw, -⟩
  · simp only [hw, Bool.true_eq_false, if_false]
    rcases in_fr a1 (lo := 0) (hi := 5) (by omega) (by omega) with ⟨hk, k, -, hk5, rfl⟩ | ⟨hk, hn⟩
    · simp only [hk, Bool.true_eq_false, if_false]
      rcases (show k = 0 ∨ k = 1 ∨ k = 2 ∨ k = 3 ∨ k = 4 ∨ k = 5 by omega) with rfl | rfl | rfl | rfl | rfl | rfl
      · obtain ⟨y1, z1, e1, e2, hB⟩ := hA.rateChild hc
        exact ⟨_, y1, z1, by simp (disch := omega) [e1]; rfl, by simp (disch := omega) [e2], hB.rel⟩
      · obtain ⟨v, y1, z1, e1, e2, hB⟩ := hA.rateClimber hc
        exact ⟨v, y1, z1, by simp (disch := omega) [e1, jN_eq], by simp (disch := omega) [e2, jN_eq], hB.rel⟩
      · obtain ⟨v, y1, z1, e1, e2, hB⟩ := hA.rateGuest hc
        exact ⟨v, y1, z1, by simp (disch := omega) [e1, jN_eq], by simp (disch := omega) [e2, jN_eq], hB.rel⟩
      · obtain ⟨v, y1, z1, e1, e2, hB⟩ := (hA.bodies 1000).rateClimber hc
        exact ⟨jN 2 * v, y1, z1, by simp (disch := omega) [e1, jN_eq, fTp_rateCaptain, zk_let]; rfl, by simp (disch := omega) [e2, jN_eq, zk_let], hB.rel⟩
      · obtain ⟨v, y1, z1, e1, e2, hB⟩ := (hA.bodies 10000).rateGuest hc
        exact ⟨v + jN c, y1, z1, by simp (disch := omega) [e1, jN_eq, fTp_rateNeighbour, zk_let], by simp (disch := omega) [e2, jN_eq, zk_let], hB.rel⟩
      · obtain ⟨y1, z1, e1, e2, hB⟩ := (hA.bodies 100000).rateChild hc
        exact ⟨jN (T 7 c) + jN (cnt (oB R) (2 * T 0 1)), y1, z1, by simp (disch := omega) [e1, jN_eq, fTp_rateSister, zk_let, hB.outsX], by simp (disch := omega) [e2, jN_eq, zk_let, hB.outsM], hB.rel⟩
    · refine ⟨-jN 1000000, y, z, ?_, by simp [hk], h⟩
      rw [if_neg (hn 0 (by omega) (by omega)), if_neg (hn 1 (by omega) (by omega)), if_neg (hn 2 (by omega) (by omega)), if_neg (hn 3 (by omega) (by omega)), if_neg (hn 4 (by omega) (by omega)), if_neg (hn 5 (by omega) (by omega))]
  · exact ⟨-jN 1000000, y, z, by simp [hw], by simp [hw], h⟩
