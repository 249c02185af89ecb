/-! what is read: end, child, test, rate -/
theorem zOn_in {T : Nat → Nat → Nat} {n : Nat} (hT : T 0 1 ≤ 6) : fMd_in (zOn T n) (jN 0) (jN (T 0 1) - jN 1) = decide (n < T 0 1) := by
  unfold zOn
  rcases in_lt (if n < T 0 1 then jN n else jNo) (K := T 0 1) (by omega) with ⟨h, m, h1, h2⟩ | ⟨h, h1⟩
  · rw [h]
    by_cases c : n < T 0 1
    · simp [c]
    · rw [if_neg c] at h2; exact absurd h2 (jNo_n (by omega))
  · rw [h]
    by_cases c : n < T 0 1
    · rw [if_pos c] at h1; exact absurd rfl (h1 n c)
    · simp [c]
theorem pr_child {y z : zkM} (h : zRel y z) (a1 : Int32) (a2 : Int32) : ∃ v y' z', sX_child y a1 a2 v y' ∧ sM_child z a1 a2 v z' ∧ zRel y' z' := by
  obtain ⟨T, R, hT, hx, hm, hS, sx, sm, hP, hA, hO, hX, hB⟩ := h.ex
  obtain ⟨t1, t2, t3, t4, t5, t6⟩ := id hT
  unfold sX_child sM_child fTp_child fMd_child fTp_isChild fMd_isChild fScene_plankUnder
  simp only [within_in, hx.2.2.1, hm.2.2.1, zbF, k0, k1, k2, k3, k4, k5, k6, k7, k8, k9, k10, k12, k16, k17, k20, k29, k30, k31, k32, k36, k40, k41, k42, k48, k57, k59, k60, k64, k98, k99, k100, k112, k128, k200, k255, k256, k378, k420, k999, k1000000]
  rcases in_lt a1 (K := T 0 2) (by omega) with ⟨hw, c, hc, rfl⟩ | ⟨hw, -⟩
  · simp only [hw, Bool.true_eq_false, if_false]
    rcases in_fr a2 (lo := 0) (hi := 2) (by omega) (by omega) with ⟨h2, w, -, hw2, rfl⟩ | ⟨h2, hn⟩
    · simp only [h2, Bool.true_eq_false, if_false]
      rcases (show w = 0 ∨ w = 1 ∨ w = 2 by omega) with rfl | rfl | rfl
      · refine ⟨jN (T 7 c), y, z, ⟨?_, rfl⟩, ⟨?_, rfl⟩, h⟩
        · simp (disch := omega) [zk_let, Option.bind_some, cond_true, cond_false, if_true, if_false, zbF, zbT, within_in, jn9, k0, k1, k2, k3, k4, k5, k6, k7, k8, k9, k10, k12, k16, k17, k20, k29, k30, k31, k32, k36, k40, k41, k42, k48, k57, k59, k60, k64, k98, k99, k100, k112, k128, k200, k255, k256, k378, k420, k999, k1000000, jN_add, jN_mul, jN_clamp, jN_inbT, Bool.false_eq_true, Bool.true_eq_false, jN_eq, hx.2.2.2.2.2 c hc]
        · simp (disch := omega) [zk_let, Option.bind_some, cond_true, cond_false, if_true, if_false, zbF, zbT, within_in, jn9, k0, k1, k2, k3, k4, k5, k6, k7, k8, k9, k10, k12, k16, k17, k20, k29, k30, k31, k32, k36, k40, k41, k42, k48, k57, k59, k60, k64, k98, k99, k100, k112, k128, k200, k255, k256, k378, k420, k999, k1000000, jN_add, jN_mul, jN_clamp, jN_inbT, Bool.false_eq_true, Bool.true_eq_false, jN_eq, hm.2.2.2.2.2 c hc]
      · refine ⟨jN (T 8 c), y, z, ⟨?_, rfl⟩, ⟨?_, rfl⟩, h⟩
        · simp (disch := omega) [zk_let, Option.bind_some, cond_true, cond_false, if_true, if_false, zbF, zbT, within_in, jn9, k0, k1, k2, k3, k4, k5, k6, k7, k8, k9, k10, k12, k16, k17, k20, k29, k30, k31, k32, k36, k40, k41, k42, k48, k57, k59, k60, k64, k98, k99, k100, k112, k128, k200, k255, k256, k378, k420, k999, k1000000, jN_add, jN_mul, jN_clamp, jN_inbT, Bool.false_eq_true, Bool.true_eq_false, jN_eq, hx.2.2.2.2.2 c hc]
        · simp (disch := omega) [zk_let, Option.bind_some, cond_true, cond_false, if_true, if_false, zbF, zbT, within_in, jn9, k0, k1, k2, k3, k4, k5, k6, k7, k8, k9, k10, k12, k16, k17, k20, k29, k30, k31, k32, k36, k40, k41, k42, k48, k57, k59, k60, k64, k98, k99, k100, k112, k128, k200, k255, k256, k378, k420, k999, k1000000, jN_add, jN_mul, jN_clamp, jN_inbT, Bool.false_eq_true, Bool.true_eq_false, jN_eq, hm.2.2.2.2.2 c hc]
      · refine ⟨zOn T (R 3 c), y, z, ⟨?_, rfl⟩, ⟨?_, rfl⟩, h⟩
        · simp (disch := omega) [zk_let, Option.bind_some, cond_true, cond_false, if_true, if_false, zbF, zbT, within_in, jn9, k0, k1, k2, k3, k4, k5, k6, k7, k8, k9, k10, k12, k16, k17, k20, k29, k30, k31, k32, k36, k40, k41, k42, k48, k57, k59, k60, k64, k98, k99, k100, k112, k128, k200, k255, k256, k378, k420, k999, k1000000, jN_add, jN_mul, jN_clamp, jN_inbT, Bool.false_eq_true, Bool.true_eq_false, jN_eq, sx.2.1 c hc]
        · simp (disch := omega) [zk_let, Option.bind_some, cond_true, cond_false, if_true, if_false, zbF, zbT, within_in, jn9, k0, k1, k2, k3, k4, k5, k6, k7, k8, k9, k10, k12, k16, k17, k20, k29, k30, k31, k32, k36, k40, k41, k42, k48, k57, k59, k60, k64, k98, k99, k100, k112, k128, k200, k255, k256, k378, k420, k999, k1000000, jN_add, jN_mul, jN_clamp, jN_inbT, Bool.false_eq_true, Bool.true_eq_false, jN_eq, sm.2.1 c hc]
    · rw [if_neg (hn 0 (by omega) (by omega)), if_neg (hn 1 (by omega) (by omega)), if_neg (hn 2 (by omega) (by omega))]
      exact ⟨_, y, z, ⟨rfl, rfl⟩, ⟨by simp [h2], rfl⟩, h⟩
  · exact ⟨-jN 1, y, z, ⟨by simp [hw], rfl⟩, ⟨by simp [hw], rfl⟩, h⟩
theorem pr_end {y z : zkM} (h : zRel y z) (a1 : Int32) (a2 : Int32) (a3 : Int32) : ∃ v y' z', sX_end y a1 a2 a3 v y' ∧ sM_end z a1 a2 a3 v z' ∧ zRel y' z' := by
  obtain ⟨T, R, hT, hx, hm, hS, sx, sm, hP, hA, hO, hX, hB⟩ := h.ex
  obtain ⟨t1, t2, t3, t4, t5, t6⟩ := id hT
  unfold sX_end sM_end fTp_end fMd_end fTp_isEnd fTp_isPlank fMd_isPlank fScene_kindOf fScene_wearOf fScene_isOut fMd_endAt
  simp only [within_in, hx.2.1, hm.2.1, zbF, k0, k1, k2, k3, k4, k5, k6, k7, k8, k9, k10, k12, k16, k17, k20, k29, k30, k31, k32, k36, k40, k41, k42, k48, k57, k59, k60, k64, k98, k99, k100, k112, k128, k200, k255, k256, k378, k420, k999, k1000000]
  rcases in_lt a1 (K := T 0 1) (by omega) with ⟨hw, p, hp, rfl⟩ | ⟨hw, -⟩
  · simp only [hw, Bool.true_eq_false, if_false]
    rcases in_fr a2 (lo := 0) (hi := 1) (by omega) (by omega) with ⟨h1, e, -, he, rfl⟩ | ⟨h1, -⟩
    · simp only [h1, Bool.true_eq_false, if_false]
      rcases in_fr a3 (lo := 0) (hi := 2) (by omega) (by omega) with ⟨h2, w, -, hw2, rfl⟩ | ⟨h2, hn⟩
      · simp only [h2, Bool.true_eq_false, if_false]
        have sx3 := sx.2.2 (2 * p + e) (by omega)
        have sm3 := sm.2.2 (2 * p + e) (by omega)
        have sb3 := hS.2 (2 * p + e) (by omega)
        rw [show 6 + 3 * (2 * p + e) = 6 + 6 * p + 3 * e by omega, show 7 + 3 * (2 * p + e) = 6 + 6 * p + 3 * e + 1 by omega, show 8 + 3 * (2 * p + e) = 6 + 6 * p + 3 * e + 2 by omega] at sm3
        rcases (show w = 0 ∨ w = 1 ∨ w = 2 by omega) with rfl | rfl | rfl
        · refine ⟨jN (R 0 (2 * p + e)), y, z, ⟨?_, rfl⟩, ⟨?_, rfl⟩, h⟩
          · simp (disch := omega) [zk_let, Option.bind_some, cond_true, cond_false, if_true, if_false, zbF, zbT, within_in, jn9, k0, k1, k2, k3, k4, k5, k6, k7, k8, k9, k10, k12, k16, k17, k20, k29, k30, k31, k32, k36, k40, k41, k42, k48, k57, k59, k60, k64, k98, k99, k100, k112, k128, k200, k255, k256, k378, k420, k999, k1000000, jN_add, jN_mul, jN_clamp, jN_inbT, Bool.false_eq_true, Bool.true_eq_false, jN_eq, sx3]
          · simp (disch := omega) [zk_let, Option.bind_some, cond_true, cond_false, if_true, if_false, zbF, zbT, within_in, jn9, k0, k1, k2, k3, k4, k5, k6, k7, k8, k9, k10, k12, k16, k17, k20, k29, k30, k31, k32, k36, k40, k41, k42, k48, k57, k59, k60, k64, k98, k99, k100, k112, k128, k200, k255, k256, k378, k420, k999, k1000000, jN_add, jN_mul, jN_clamp, jN_inbT, Bool.false_eq_true, Bool.true_eq_false, jN_eq, sm3]
        · refine ⟨jN (R 1 (2 * p + e)), y, z, ⟨?_, rfl⟩, ⟨?_, rfl⟩, h⟩
          · simp (disch := omega) [zk_let, Option.bind_some, cond_true, cond_false, if_true, if_false, zbF, zbT, within_in, jn9, k0, k1, k2, k3, k4, k5, k6, k7, k8, k9, k10, k12, k16, k17, k20, k29, k30, k31, k32, k36, k40, k41, k42, k48, k57, k59, k60, k64, k98, k99, k100, k112, k128, k200, k255, k256, k378, k420, k999, k1000000, jN_add, jN_mul, jN_clamp, jN_inbT, Bool.false_eq_true, Bool.true_eq_false, jN_eq, sx3]
          · simp (disch := omega) [zk_let, Option.bind_some, cond_true, cond_false, if_true, if_false, zbF, zbT, within_in, jn9, k0, k1, k2, k3, k4, k5, k6, k7, k8, k9, k10, k12, k16, k17, k20, k29, k30, k31, k32, k36, k40, k41, k42, k48, k57, k59, k60, k64, k98, k99, k100, k112, k128, k200, k255, k256, k378, k420, k999, k1000000, jN_add, jN_mul, jN_clamp, jN_inbT, Bool.false_eq_true, Bool.true_eq_false, jN_eq, sm3]
        · refine ⟨jN (R 2 (2 * p + e)), y, z, ⟨?_, rfl⟩, ⟨?_, rfl⟩, h⟩
          · rcases (show R 2 (2 * p + e) = 0 ∨ R 2 (2 * p + e) = 1 by omega) with h5 | h5
            · simp (disch := omega) [zk_let, Option.bind_some, cond_true, cond_false, if_true, if_false, zbF, zbT, within_in, jn9, k0, k1, k2, k3, k4, k5, k6, k7, k8, k9, k10, k12, k16, k17, k20, k29, k30, k31, k32, k36, k40, k41, k42, k48, k57, k59, k60, k64, k98, k99, k100, k112, k128, k200, k255, k256, k378, k420, k999, k1000000, jN_add, jN_mul, jN_clamp, jN_inbT, Bool.false_eq_true, Bool.true_eq_false, jN_eq, sx3, h5]
            · simp (disch := omega) [zk_let, Option.bind_some, cond_true, cond_false, if_true, if_false, zbF, zbT, within_in, jn9, k0, k1, k2, k3, k4, k5, k6, k7, k8, k9, k10, k12, k16, k17, k20, k29, k30, k31, k32, k36, k40, k41, k42, k48, k57, k59, k60, k64, k98, k99, k100, k112, k128, k200, k255, k256, k378, k420, k999, k1000000, jN_add, jN_mul, jN_clamp, jN_inbT, Bool.false_eq_true, Bool.true_eq_false, jN_eq, sx3, h5]
          · simp (disch := omega) [zk_let, Option.bind_some, cond_true, cond_false, if_true, if_false, zbF, zbT, within_in, jn9, k0, k1, k2, k3, k4, k5, k6, k7, k8, k9, k10, k12, k16, k17, k20, k29, k30, k31, k32, k36, k40, k41, k42, k48, k57, k59, k60, k64, k98, k99, k100, k112, k128, k200, k255, k256, k378, k420, k999, k1000000, jN_add, jN_mul, jN_clamp, jN_inbT, Bool.false_eq_true, Bool.true_eq_false, jN_eq, sm3]
      · simp only [zk_let]
        rw [if_neg (hn 0 (by omega) (by omega)), if_neg (hn 1 (by omega) (by omega)), if_neg (hn 2 (by omega) (by omega))]
        exact ⟨-jN 1, y, z, ⟨rfl, rfl⟩, ⟨by simp [h2], rfl⟩, h⟩
    · exact ⟨-jN 1, y, z, ⟨by simp [h1], rfl⟩, ⟨by simp [h1], rfl⟩, h⟩
  · exact ⟨-jN 1, y, z, ⟨by simp [hw], rfl⟩, ⟨by simp [hw], rfl⟩, h⟩
