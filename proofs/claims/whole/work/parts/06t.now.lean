/-! bough, plank, now -/
theorem zAll.same {T R : Nat → Nat → Nat} {y z y' z' : zkM} (h : zAll T R y z) (a : zKx y y') (b : zKm z z') : zAll T R y' z' := by
  obtain ⟨h1, h2, h3, h4, h5, h6, hP, hA, hO, hX, hB⟩ := h
  refine ⟨h1, h2.congr (a.1 _ rfl) (a.1 _ rfl) (a.1 _ rfl) (a.1 _ rfl) (a.1 _ rfl) (a.1 _ rfl) (a.1 _ rfl) (a.1 _ rfl), h3.congr b.2.1 b.2.2.1 b.2.2.2.1 (b.1 _ rfl) (b.1 _ rfl) (b.1 _ rfl), h4, by rw [a.1 5 rfl]; exact h5, by rw [b.1 4 rfl]; exact h6, hP.congr (fun k h1 h2 => a.1 k ?_) a.2.2.1 a.2.2.2.1 b.2.2.2.2.1 (b.1 _ rfl), hA.congr (a.1 _ rfl) (a.1 _ rfl) (a.1 _ rfl) (b.1 _ rfl) (b.1 _ rfl), hO.congr a.2.2.2.2.1 (a.1 _ rfl) (a.1 _ rfl) (a.1 _ rfl) b.2.2.2.2.2.1 (b.1 _ rfl), hX.congr a.2.1 (a.1 _ rfl) b.2.2.2.2.2.2.1 (b.1 _ rfl), by rw [a.2.2.2.2.2, b.2.2.2.2.2.2.2]; exact hB⟩
  unfold zRx
  have e1 : Nat.ble 11 k = true := Nat.ble_eq_true_of_le h1
  have e2 : Nat.blt k 21 = true := Nat.ble_eq_true_of_le h2
  rw [e1, e2]
  simp
/-- the LOADS now -/
def ldN (T R : Nat → Nat → Nat) : Nat → Nat := ld T (R 3) (T 0 2)
theorem ldN_lt {T R : Nat → Nat → Nat} (hT : zTb T) (p : Nat) : ldN T R p < 1000 := by
  have := ld_le (u := R 3) hT (Nat.le_refl _) p
  have := hT.2.2.1
  unfold ldN; omega
theorem zAll.weigh {T R : Nat → Nat → Nat} {y z : zkM} (h : zAll T R y z) : ∃ y1 z1, fBurden_weigh y = some y1 ∧ fMd_layLoadsNow z = some z1 ∧ zKx y y1 ∧ zKm z z1 ∧ zLd T (ldN T R) (y1.1 7) (y1.1 8) ∧ zLd T (ldN T R) (z1.1 14) (z1.1 15) ∧ zAll T R y1 z1 := by
  obtain ⟨h1, h2, h3, h4, h5, h6, -⟩ := id h
  have t3 := h1.2.2.1
  obtain ⟨r7, r8, e1, l1⟩ := weigh_spec (u := R 3) h1 h2 h5.2.1
  obtain ⟨o, e2, ho⟩ := layNow_spec (z := z)
  obtain ⟨a, b, e3, l3⟩ := layLoads_spec (u := R 3) (z := zk_row z 13 o) h1 (h3.congr rfl rfl rfl rfl rfl rfl) (fun c hc => by rw [zk_row_on, ho c (by omega)]; exact h6.2.1 c hc)
  have k1 : zKx y (zk_row (zk_row y 7 r7) 8 r8) := (zKx.row rfl (by omega) (by omega) (by omega)).tr (zKx.row rfl (by omega) (by omega) (by omega))
  have k2 : zKm z (zk_row (zk_row (zk_row z 13 o) 14 a) 15 b) := ((zKm.row (by omega)).tr (zKm.row (by omega))).tr (zKm.row (by omega))
  refine ⟨_, _, e1, ?_, k1, k2, ?_, ?_, h.same k1 k2⟩
  · unfold fMd_layLoadsNow; simp only [e2, e3, Option.bind_some]
  · rw [zk_row_off (show (7 : Nat) ≠ 8 by omega), zk_row_on, zk_row_on]; exact l1
  · rw [zk_row_off (show (14 : Nat) ≠ 15 by omega), zk_row_on, zk_row_on]; exact l3
theorem zAll.ends {T R : Nat → Nat → Nat} {y z : zkM} (h : zAll T R y z) : ∃ r, fMd_layEnds z = some (zk_row z 16 r) ∧ zEm T R 0 r ∧ zKm z (zk_row z 16 r) := by
  obtain ⟨h1, h2, h3, h4, h5, h6, -⟩ := id h
  have t2 := h1.2.1
  obtain ⟨r, e, hr⟩ := layEnds_spec (z := z)
  refine ⟨r, e, fun e he => ?_, zKm.row (by omega)⟩
  obtain ⟨g1, g2, g3⟩ := h6.2.2 e he
  refine ⟨?_, ?_, ?_⟩
  · rw [hr _ (by omega), show 6 + (0 + 3 * e) = 6 + 3 * e by omega]; exact g1
  · rw [hr _ (by omega), show 6 + (0 + 3 * e + 1) = 7 + 3 * e by omega]; exact g2
  · rw [hr _ (by omega), show 6 + (0 + 3 * e + 2) = 8 + 3 * e by omega]; exact g3
theorem pr_bough {y z : zkM} (h : zRel y z) (a1 : Int32) (a2 : Int32) : ∃ v y' z', sX_bough y a1 a2 v y' ∧ sM_bough z a1 a2 v z' ∧ zRel y' z' := by
  obtain ⟨T, R, hA⟩ := h.all
  obtain ⟨hT, hx, hm, -⟩ := id hA
  obtain ⟨t1, t2, t3, t4, t5, t6⟩ := id hT
  unfold sX_bough sM_bough fTp_bough fMd_bough fMd_isBough
  simp only [within_in, hx.1, hm.1, zbF, k0, k1, k2, k3, k4, k5, k6, k7, k8, k9, k10, k12, k16, k17, k20, k29, k30, k31, k32, k36, k40, k41, k42, k48, k57, k59, k60, k64, k98, k99, k100, k112, k128, k200, k255, k256, k378, k420, k999, k1000000]
  rcases in_lt a1 (K := T 0 0) (by omega) with ⟨hw, b, hb, rfl⟩ | ⟨hw, -⟩
  · simp only [hw, Bool.true_eq_false, if_false]
    obtain ⟨y1, z1, e1, e2, kx, km, l1, l2, hA1⟩ := hA.weigh
    obtain ⟨-, hx1, hm1, -⟩ := id hA1
    rcases in_fr a2 (lo := 0) (hi := 3) (by omega) (by omega) with ⟨h2, w, -, hw2, rfl⟩ | ⟨h2, hn⟩
    · simp only [h2, Bool.true_eq_false, if_false]
      rcases (show w = 0 ∨ w = 1 ∨ w = 2 ∨ w = 3 by omega) with rfl | rfl | rfl | rfl
      · refine ⟨jN (T 1 b), y, z1, ?_, ?_, h.same (zKx.rf y) km⟩
        · simp (disch := omega) [zk_let, Option.bind_some, cond_true, cond_false, if_true, if_false, zbF, zbT, within_in, jn9, k0, k1, k2, k3, k4, k5, k6, k7, k8, k9, k10, k12, k16, k17, k20, k29, k30, k31, k32, k36, k40, k41, k42, k48, k57, k59, k60, k64, k98, k99, k100, k112, k128, k200, k255, k256, k378, k420, k999, k1000000, jN_add, jN_mul, jN_clamp, jN_inbT, Bool.false_eq_true, Bool.true_eq_false, jN_eq, hx.2.2.2.1 b hb]
        · simp (disch := omega) [zk_let, Option.bind_some, cond_true, cond_false, if_true, if_false, zbF, zbT, within_in, jn9, k0, k1, k2, k3, k4, k5, k6, k7, k8, k9, k10, k12, k16, k17, k20, k29, k30, k31, k32, k36, k40, k41, k42, k48, k57, k59, k60, k64, k98, k99, k100, k112, k128, k200, k255, k256, k378, k420, k999, k1000000, jN_add, jN_mul, jN_clamp, jN_inbT, Bool.false_eq_true, Bool.true_eq_false, jN_eq, e2, hm1.2.2.2.1 b hb]
      · refine ⟨jN (T 2 b), y, z1, ?_, ?_, h.same (zKx.rf y) km⟩
        · simp (disch := omega) [zk_let, Option.bind_some, cond_true, cond_false, if_true, if_false, zbF, zbT, within_in, jn9, k0, k1, k2, k3, k4, k5, k6, k7, k8, k9, k10, k12, k16, k17, k20, k29, k30, k31, k32, k36, k40, k41, k42, k48, k57, k59, k60, k64, k98, k99, k100, k112, k128, k200, k255, k256, k378, k420, k999, k1000000, jN_add, jN_mul, jN_clamp, jN_inbT, Bool.false_eq_true, Bool.true_eq_false, jN_eq, hx.2.2.2.1 b hb]
        · simp (disch := omega) [zk_let, Option.bind_some, cond_true, cond_false, if_true, if_false, zbF, zbT, within_in, jn9, k0, k1, k2, k3, k4, k5, k6, k7, k8, k9, k10, k12, k16, k17, k20, k29, k30, k31, k32, k36, k40, k41, k42, k48, k57, k59, k60, k64, k98, k99, k100, k112, k128, k200, k255, k256, k378, k420, k999, k1000000, jN_add, jN_mul, jN_clamp, jN_inbT, Bool.false_eq_true, Bool.true_eq_false, jN_eq, e2, hm1.2.2.2.1 b hb]
      · refine ⟨jN (T 3 b), y, z1, ?_, ?_, h.same (zKx.rf y) km⟩
        · simp (disch := omega) [zk_let, Option.bind_some, cond_true, cond_false, if_true, if_false, zbF, zbT, within_in, jn9, k0, k1, k2, k3, k4, k5, k6, k7, k8, k9, k10, k12, k16, k17, k20, k29, k30, k31, k32, k36, k40, k41, k42, k48, k57, k59, k60, k64, k98, k99, k100, k112, k128, k200, k255, k256, k378, k420, k999, k1000000, jN_add, jN_mul, jN_clamp, jN_inbT, Bool.false_eq_true, Bool.true_eq_false, jN_eq, hx.2.2.2.1 b hb]
        · simp (disch := omega) [zk_let, Option.bind_some, cond_true, cond_false, if_true, if_false, zbF, zbT, within_in, jn9, k0, k1, k2, k3, k4, k5, k6, k7, k8, k9, k10, k12, k16, k17, k20, k29, k30, k31, k32, k36, k40, k41, k42, k48, k57, k59, k60, k64, k98, k99, k100, k112, k128, k200, k255, k256, k378, k420, k999, k1000000, jN_add, jN_mul, jN_clamp, jN_inbT, Bool.false_eq_true, Bool.true_eq_false, jN_eq, e2, hm1.2.2.2.1 b hb]
      · refine ⟨jN (be T (ldN T R) (T 0 1) b), y1, z1, ?_, ?_, hA1.rel⟩
        · simp (disch := omega) [zk_let, Option.bind_some, cond_true, cond_false, if_true, if_false, zbF, zbT, within_in, jn9, k0, k1, k2, k3, k4, k5, k6, k7, k8, k9, k10, k12, k16, k17, k20, k29, k30, k31, k32, k36, k40, k41, k42, k48, k57, k59, k60, k64, k98, k99, k100, k112, k128, k200, k255, k256, k378, k420, k999, k1000000, jN_add, jN_mul, jN_clamp, jN_inbT, Bool.false_eq_true, Bool.true_eq_false, jN_eq, e1, l1.2 b hb]
        · simp (disch := omega) [zk_let, Option.bind_some, cond_true, cond_false, if_true, if_false, zbF, zbT, within_in, jn9, k0, k1, k2, k3, k4, k5, k6, k7, k8, k9, k10, k12, k16, k17, k20, k29, k30, k31, k32, k36, k40, k41, k42, k48, k57, k59, k60, k64, k98, k99, k100, k112, k128, k200, k255, k256, k378, k420, k999, k1000000, jN_add, jN_mul, jN_clamp, jN_inbT, Bool.false_eq_true, Bool.true_eq_false, jN_eq, e2, l2.2 b hb]
    · rw [if_neg (hn 0 (by omega) (by omega)), if_neg (hn 1 (by omega) (by omega)), if_neg (hn 2 (by omega) (by omega)), if_neg (hn 3 (by omega) (by omega))]
      exact ⟨-jN 1, y, z, rfl, by simp [h2], h⟩
  · exact ⟨-jN 1, y, z, by simp [hw], by simp [hw], h⟩
theorem pr_plank {y z : zkM} (h : zRel y z) (a1 : Int32) (a2 : Int32) : ∃ v y' z', sX_plank y a1 a2 v y' ∧ sM_plank z a1 a2 v z' ∧ zRel y' z' := by
  obtain ⟨T, R, hA⟩ := h.all
  obtain ⟨hT, hx, hm, -⟩ := id hA
  obtain ⟨t1, t2, t3, t4, t5, t6⟩ := id hT
  unfold sX_plank sM_plank fTp_plank fMd_plank fTp_isPlank fMd_isPlank
  simp only [within_in, hx.2.1, hm.2.1, zbF, k0, k1, k2, k3, k4, k5, k6, k7, k8, k9, k10, k12, k16, k17, k20, k29, k30, k31, k32, k36, k40, k41, k42, k48, k57, k59, k60, k64, k98, k99, k100, k112, k128, k200, k255, k256, k378, k420, k999, k1000000]
  rcases in_lt a1 (K := T 0 1) (by omega) with ⟨hw, b, hb, rfl⟩ | ⟨hw, -⟩
  · simp only [hw, Bool.true_eq_false, if_false]
    obtain ⟨y1, z1, e1, e2, kx, km, l1, l2, hA1⟩ := hA.weigh
    obtain ⟨-, hx1, hm1, -⟩ := id hA1
    rcases in_fr a2 (lo := 0) (hi := 3) (by omega) (by omega) with ⟨h2, w, -, hw2, rfl⟩ | ⟨h2, hn⟩
    · simp only [h2, Bool.true_eq_false, if_false]
      rcases (show w = 0 ∨ w = 1 ∨ w = 2 ∨ w = 3 by omega) with rfl | rfl | rfl | rfl
      · refine ⟨jN (T 4 b), y, z1, ?_, ?_, h.same (zKx.rf y) km⟩
        · simp (disch := omega) [zk_let, Option.bind_some, cond_true, cond_false, if_true, if_false, zbF, zbT, within_in, jn9, k0, k1, k2, k3, k4, k5, k6, k7, k8, k9, k10, k12, k16, k17, k20, k29, k30, k31, k32, k36, k40, k41, k42, k48, k57, k59, k60, k64, k98, k99, k100, k112, k128, k200, k255, k256, k378, k420, k999, k1000000, jN_add, jN_mul, jN_clamp, jN_inbT, Bool.false_eq_true, Bool.true_eq_false, jN_eq, hx.2.2.2.2.1 b hb]
        · simp (disch := omega) [zk_let, Option.bind_some, cond_true, cond_false, if_true, if_false, zbF, zbT, within_in, jn9, k0, k1, k2, k3, k4, k5, k6, k7, k8, k9, k10, k12, k16, k17, k20, k29, k30, k31, k32, k36, k40, k41, k42, k48, k57, k59, k60, k64, k98, k99, k100, k112, k128, k200, k255, k256, k378, k420, k999, k1000000, jN_add, jN_mul, jN_clamp, jN_inbT, Bool.false_eq_true, Bool.true_eq_false, jN_eq, e2, hm1.2.2.2.2.1 b hb]
      · refine ⟨jN (T 5 b), y, z1, ?_, ?_, h.same (zKx.rf y) km⟩
        · simp (disch := omega) [zk_let, Option.bind_some, cond_true, cond_false, if_true, if_false, zbF, zbT, within_in, jn9, k0, k1, k2, k3, k4, k5, k6, k7, k8, k9, k10, k12, k16, k17, k20, k29, k30, k31, k32, k36, k40, k41, k42, k48, k57, k59, k60, k64, k98, k99, k100, k112, k128, k200, k255, k256, k378, k420, k999, k1000000, jN_add, jN_mul, jN_clamp, jN_inbT, Bool.false_eq_true, Bool.true_eq_false, jN_eq, hx.2.2.2.2.1 b hb]
        · simp (disch := omega) [zk_let, Option.bind_some, cond_true, cond_false, if_true, if_false, zbF, zbT, within_in, jn9, k0, k1, k2, k3, k4, k5, k6, k7, k8, k9, k10, k12, k16, k17, k20, k29, k30, k31, k32, k36, k40, k41, k42, k48, k57, k59, k60, k64, k98, k99, k100, k112, k128, k200, k255, k256, k378, k420, k999, k1000000, jN_add, jN_mul, jN_clamp, jN_inbT, Bool.false_eq_true, Bool.true_eq_false, jN_eq, e2, hm1.2.2.2.2.1 b hb]
      · refine ⟨jN (T 6 b), y, z1, ?_, ?_, h.same (zKx.rf y) km⟩
        · simp (disch := omega) [zk_let, Option.bind_some, cond_true, cond_false, if_true, if_false, zbF, zbT, within_in, jn9, k0, k1, k2, k3, k4, k5, k6, k7, k8, k9, k10, k12, k16, k17, k20, k29, k30, k31, k32, k36, k40, k41, k42, k48, k57, k59, k60, k64, k98, k99, k100, k112, k128, k200, k255, k256, k378, k420, k999, k1000000, jN_add, jN_mul, jN_clamp, jN_inbT, Bool.false_eq_true, Bool.true_eq_false, jN_eq, hx.2.2.2.2.1 b hb]
        · simp (disch := omega) [zk_let, Option.bind_some, cond_true, cond_false, if_true, if_false, zbF, zbT, within_in, jn9, k0, k1, k2, k3, k4, k5, k6, k7, k8, k9, k10, k12, k16, k17, k20, k29, k30, k31, k32, k36, k40, k41, k42, k48, k57, k59, k60, k64, k98, k99, k100, k112, k128, k200, k255, k256, k378, k420, k999, k1000000, jN_add, jN_mul, jN_clamp, jN_inbT, Bool.false_eq_true, Bool.true_eq_false, jN_eq, e2, hm1.2.2.2.2.1 b hb]
      · refine ⟨jN (ldN T R b), y1, z1, ?_, ?_, hA1.rel⟩
        · simp (disch := omega) [zk_let, Option.bind_some, cond_true, cond_false, if_true, if_false, zbF, zbT, within_in, jn9, k0, k1, k2, k3, k4, k5, k6, k7, k8, k9, k10, k12, k16, k17, k20, k29, k30, k31, k32, k36, k40, k41, k42, k48, k57, k59, k60, k64, k98, k99, k100, k112, k128, k200, k255, k256, k378, k420, k999, k1000000, jN_add, jN_mul, jN_clamp, jN_inbT, Bool.false_eq_true, Bool.true_eq_false, jN_eq, e1, l1.1 b hb]
        · simp (disch := omega) [zk_let, Option.bind_some, cond_true, cond_false, if_true, if_false, zbF, zbT, within_in, jn9, k0, k1, k2, k3, k4, k5, k6, k7, k8, k9, k10, k12, k16, k17, k20, k29, k30, k31, k32, k36, k40, k41, k42, k48, k57, k59, k60, k64, k98, k99, k100, k112, k128, k200, k255, k256, k378, k420, k999, k1000000, jN_add, jN_mul, jN_clamp, jN_inbT, Bool.false_eq_true, Bool.true_eq_false, jN_eq, e2, l2.1 b hb]
    · rw [if_neg (hn 0 (by omega) (by omega)), if_neg (hn 1 (by omega) (by omega)), if_neg (hn 2 (by omega) (by omega)), if_neg (hn 3 (by omega) (by omega))]
      exact ⟨-jN 1, y, z, rfl, by simp [h2], h⟩
  · exact ⟨-jN 1, y, z, by simp [hw], by simp [hw], h⟩
theorem pr_now {y z : zkM} (h : zRel y z) (a1 : Int32) : ∃ v y' z', sX_now y a1 v y' ∧ sM_now z a1 v z' ∧ zRel y' z' := by
  obtain ⟨T, R, hA0⟩ := h.all
  obtain ⟨hT, hx, hm, hS, -⟩ := id hA0
  obtain ⟨y1, z1, e1, e2, kx, km, l1, l2, hA1⟩ := hA0.weigh
  obtain ⟨r, e3, hr, kn⟩ := hA1.ends
  have hA2 : zAll T R y1 (zk_row z1 16 r) := hA1.same (zKx.rf y1) kn
  obtain ⟨-, hx1, hm2, -, sx1, sm2, ⟨K, nx, -, -, p1, p2, -⟩, -⟩ := id hA2
  have l3 : zLd T (ldN T R) ((zk_row z1 16 r).1 14) ((zk_row z1 16 r).1 15) := l2
  have l9 : ∀ p, p < T 0 1 → ldN T R p < 1000 := fun p _ => ldN_lt hT p
  have hE : zEb T R := hS.2
  have hr2 : zEm T R 0 ((zk_row z1 16 r).1 16) := by rw [zk_row_on]; exact hr
  have c1 := laden_spec hT hx1 l1 l9
  have c2 := bent_spec hT hx1 l1 l9
  have c3 := unheld_spec hT hx1 l1 l9 hE sx1
  have c4 := allHold_spec hT hx1 l1 l9 hE sx1
  have d1 := heavyM hT hm2 l3 l9
  have d2 := weakM hT hm2 l3 l9
  have d3 := lostM hT hm2 l3 l9 hE hr2
  have d4 := holdsAllM hT hm2 l3 l9 hE hr2
  have g1 : y1.1 5 (Int32.toNatClampNeg (41 : Int32)) = jN (R 4 0) := sx1.1
  have g2 : (zk_row z1 16 r).1 4 (Int32.toNatClampNeg (0 : Int32)) = jN (R 4 0) := sm2.1
  unfold sX_now sM_now fTp_now fMd_now fScene_gales
  rw [within_in]
  rcases (fMd_in a1 (0 : Int32) (5 : Int32)).eq_false_or_eq_true with hw | hw
  · rw [hw]
    simp only [e1, e2, e3, Option.bind_some, c1, c2, c3, c4, d1, d2, d3, d4, g1, g2, p1, p2]
    have hv : ∀ v, (if zk_b true = 0 then some ((-1 : Int32), y) else (if a1 = (0 : Int32) then (if zk_b (hA T R (ldN T R)) = 0 then some ((0 : Int32), y1) else some ((1 : Int32), y1)) else (if a1 = (1 : Int32) then some (fa (cH T (ldN T R)) 0 (T 0 1), y1) else (if a1 = (2 : Int32) then some (fa (cW T (ldN T R)) 0 (T 0 0), y1) else (if a1 = (3 : Int32) then some (fa (cU R (ldN T R)) 0 (T 0 1), y1) else (if a1 = (4 : Int32) then some (jN (R 4 0), y1) else some (iI K, y1))))))) = some (v, y1) → (if zk_b true = 0 then some ((-1 : Int32), z) else (if a1 = (0 : Int32) then (if zk_b (hA T R (ldN T R)) = 0 then some ((0 : Int32), (zk_row z1 16 r)) else some ((1 : Int32), (zk_row z1 16 r))) else (if a1 = (1 : Int32) then some (fa (cH T (ldN T R)) 0 (T 0 1), (zk_row z1 16 r)) else (if a1 = (2 : Int32) then some (fa (cW T (ldN T R)) 0 (T 0 0), (zk_row z1 16 r)) else (if a1 = (3 : Int32) then some (fa (cU R (ldN T R)) 0 (T 0 1), (zk_row z1 16 r)) else (if a1 = (4 : Int32) then some (jN (R 4 0), (zk_row z1 16 r)) else some (iI K, (zk_row z1 16 r)))))))) = some (v, (zk_row z1 16 r)) := by
      intro v
      have hb : ¬ zk_b true = 0 := by decide
      rw [if_neg hb, if_neg hb]
      repeat' split
      all_goals simp
    have : ∃ v, (if zk_b true = 0 then some ((-1 : Int32), y) else (if a1 = (0 : Int32) then (if zk_b (hA T R (ldN T R)) = 0 then some ((0 : Int32), y1) else some ((1 : Int32), y1)) else (if a1 = (1 : Int32) then some (fa (cH T (ldN T R)) 0 (T 0 1), y1) else (if a1 = (2 : Int32) then some (fa (cW T (ldN T R)) 0 (T 0 0), y1) else (if a1 = (3 : Int32) then some (fa (cU R (ldN T R)) 0 (T 0 1), y1) else (if a1 = (4 : Int32) then some (jN (R 4 0), y1) else some (iI K, y1))))))) = some (v, y1) := by
      have hb : ¬ zk_b true = 0 := by decide
      rw [if_neg hb]
      repeat' split
      all_goals exact ⟨_, rfl⟩
    obtain ⟨v, e⟩ := this
    exact ⟨v, y1, _, e, hv v e, hA2.rel⟩
  · rw [hw]
    exact ⟨-1, y, z, rfl, rfl, h⟩
