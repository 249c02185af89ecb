/-- one END put anew -/
def setE (R : Nat → Nat → Nat) (e k w o : Nat) : Nat → Nat → Nat := setR (setR (setR R 0 e k) 1 e w) 2 e o
theorem setE_ne {R : Nat → Nat → Nat} {e k w o a b : Nat} (h : b ≠ e) : setE R e k w o a b = R a b := by unfold setE; rw [setR_ne2 h, setR_ne2 h, setR_ne2 h]
theorem setE_0 {R : Nat → Nat → Nat} {e k w o : Nat} : setE R e k w o 0 e = k := by simp [setE, setR]
theorem setE_1 {R : Nat → Nat → Nat} {e k w o : Nat} : setE R e k w o 1 e = w := by simp [setE, setR]
theorem setE_2 {R : Nat → Nat → Nat} {e k w o : Nat} : setE R e k w o 2 e = o := by simp [setE, setR]
theorem setE_3 {R : Nat → Nat → Nat} {e k w o b : Nat} : setE R e k w o 3 b = R 3 b := by simp [setE, setR]
theorem setE_4 {R : Nat → Nat → Nat} {e k w o b : Nat} : setE R e k w o 4 b = R 4 b := by simp [setE, setR]
theorem zSb.setE {T R : Nat → Nat → Nat} {e k w o : Nat} (h : zSb T R) (hk : k ≤ 3) (hw : w < 64) (ho : o ≤ 1) (hg : o = 0 → w < zGv k) : zSb T (setE R e k w o) := by
  refine ⟨by rw [setE_4]; exact h.1, fun f hf => ?_⟩
  by_cases c : f = e
  · subst c; rw [setE_0, setE_1, setE_2]; exact ⟨hk, hw, ho, hg⟩
  · rw [setE_ne c, setE_ne c, setE_ne c]; exact h.2 f hf
theorem zSx.setE {T R : Nat → Nat → Nat} {r : Nat → Int32} {e k w o : Nat} (hT : zTb T) (h : zSx T R r) (he : e < 2 * T 0 1) : zSx T (setE R e k w o) (upd (upd (upd r (5 + e) (jN k)) (17 + e) (jN w)) (29 + e) (jN o)) := by
  have t1 := hT.2.1
  have t2 := hT.2.2.1
  refine ⟨by rw [setE_4, upd_ne (by omega), upd_ne (by omega), upd_ne (by omega)]; exact h.1, fun c hc => ?_, fun f hf => ?_⟩
  · rw [setE_3, upd_ne (by omega), upd_ne (by omega), upd_ne (by omega)]; exact h.2.1 c hc
  · by_cases c : f = e
    · subst c
      rw [setE_0, setE_1, setE_2]
      refine ⟨?_, ?_, upd_same⟩
      · rw [upd_ne (by omega), upd_ne (by omega), upd_same]
      · rw [upd_ne (by omega), upd_same]
    · rw [setE_ne c, setE_ne c, setE_ne c]
      refine ⟨?_, ?_, ?_⟩
      · rw [upd_ne (by omega), upd_ne (by omega), upd_ne (by omega)]; exact (h.2.2 f hf).1
      · rw [upd_ne (by omega), upd_ne (by omega), upd_ne (by omega)]; exact (h.2.2 f hf).2.1
      · rw [upd_ne (by omega), upd_ne (by omega), upd_ne (by omega)]; exact (h.2.2 f hf).2.2
theorem zSm.setE {T R : Nat → Nat → Nat} {r : Nat → Int32} {e k w o : Nat} (hT : zTb T) (h : zSm T R r) (he : e < 2 * T 0 1) : zSm T (setE R e k w o) (upd (upd (upd r (6 + 3 * e) (jN k)) (7 + 3 * e) (jN w)) (8 + 3 * e) (jN o)) := by
  have t1 := hT.2.1
  have t2 := hT.2.2.1
  refine ⟨by rw [setE_4, upd_ne (by omega), upd_ne (by omega), upd_ne (by omega)]; exact h.1, fun c hc => ?_, fun f hf => ?_⟩
  · rw [setE_3, upd_ne (by omega), upd_ne (by omega), upd_ne (by omega)]; exact h.2.1 c hc
  · by_cases c : f = e
    · subst c
      rw [setE_0, setE_1, setE_2]
      refine ⟨?_, ?_, upd_same⟩
      · rw [upd_ne (by omega), upd_ne (by omega), upd_same]
      · rw [upd_ne (by omega), upd_same]
    · rw [setE_ne c, setE_ne c, setE_ne c]
      refine ⟨?_, ?_, ?_⟩
      · rw [upd_ne (by omega), upd_ne (by omega), upd_ne (by omega)]; exact (h.2.2 f hf).1
      · rw [upd_ne (by omega), upd_ne (by omega), upd_ne (by omega)]; exact (h.2.2 f hf).2.1
      · rw [upd_ne (by omega), upd_ne (by omega), upd_ne (by omega)]; exact (h.2.2 f hf).2.2
theorem zk_u3 {m : zkM} {c i j k : Nat} {a b d : Int32} : zk_u (zk_u (zk_u m c i a) c j b) c k d = zk_row m c (upd (upd (upd (m.1 c) i a) j b) k d) := by
  simp only [zk_u_row, zk_row_row, zk_row_on]
theorem zGv_pos (k : Nat) : 0 < zGv k := by unfold zGv; split; omega; split <;> omega
theorem pr_join {y z : zkM} (h : zRel y z) (a1 : Int32) (a2 : Int32) (a3 : Int32) : ∃ v y' z', sX_join y a1 a2 a3 v y' ∧ sM_join z a1 a2 a3 v z' ∧ zRel y' z' := by
  obtain ⟨T, R, hA⟩ := h.all
  obtain ⟨hT, hx, hm, hS, sx, sm, -⟩ := id hA
  obtain ⟨t1, t2, t3, t4, t5, t6⟩ := id hT
  unfold sX_join sM_join fTp_join fMd_join fTp_isEnd fTp_isPlank fMd_isPlank fScene_kindOf fScene_doAnew fMd_endAt
  simp only [within_in, hx.2.1, hm.2.1, zbF, jn9, k0, k1, k2, k3, k4, k5, k6, k7, k8, k9, k10, k12, k16, k17, k20, k29, k30, k31, k32, k36, k40, k41, k42, k48, k57, k59, k60, k64, k98, k99, k100, k112, k128, k200, k255, k256, k378, k420, k999, k1000000]
  rcases in_lt a1 (K := T 0 1) (by omega) with ⟨hw, p, hp, rfl⟩ | ⟨hw, -⟩
  · simp only [hw, Bool.true_eq_false, if_false]
    rcases in_fr a2 (lo := 0) (hi := 1) (by omega) (by omega) with ⟨h1, e, -, he, rfl⟩ | ⟨h1, -⟩
    · simp only [h1, Bool.true_eq_false, if_false]
      rcases in_fr a3 (lo := 0) (hi := 3) (by omega) (by omega) with ⟨h2, k, -, hk, rfl⟩ | ⟨h2, -⟩
      · simp only [h2, Bool.true_eq_false, if_false]
        obtain ⟨y1, z1, r1, r2, hA1⟩ := hA.rem
        obtain ⟨-, -, -, -, sx1, sm1, -⟩ := id hA1
        have sx3 := sx1.2.2 (2 * p + e) (by omega)
        have sm3 := sm1.2.2 (2 * p + e) (by omega)
        have n0 : 6 + 6 * p + 3 * e = 6 + 3 * (2 * p + e) := by omega
        have n1 : 6 + 6 * p + 3 * e + 1 = 7 + 3 * (2 * p + e) := by omega
        have n2 : 6 + 6 * p + 3 * e + 2 = 8 + 3 * (2 * p + e) := by omega
        refine ⟨jN (R 0 (2 * p + e)), zk_row y1 5 (upd (upd (upd (y1.1 5) (5 + (2 * p + e)) (jN k)) (17 + (2 * p + e)) (jN 0)) (29 + (2 * p + e)) (jN 0)), zk_row z1 4 (upd (upd (upd (z1.1 4) (6 + 3 * (2 * p + e)) (jN k)) (7 + 3 * (2 * p + e)) (jN 0)) (8 + 3 * (2 * p + e)) (jN 0)), ?_, ?_, (hA1.scene (hS.setE hk (by omega) (by omega) (fun _ => zGv_pos k)) (sx1.setE hT (by omega)) (sm1.setE hT (by omega))).rel⟩
        · simp (disch := omega) only [r1, zk_let, Option.bind_some, cond_true, cond_false, if_true, if_false, zbF, zbT, within_in, jn9, k0, k1, k2, k3, k4, k5, k6, k7, k8, k9, k10, k12, k16, k17, k20, k29, k30, k31, k32, k36, k40, k41, k42, k48, k57, k59, k60, k64, k98, k99, k100, k112, k128, k200, k255, k256, k378, k420, k999, k1000000, jN_add, jN_mul, jN_clamp, jN_inbT, Bool.false_eq_true, Bool.true_eq_false, sx3, zk_u3]
        · simp (disch := omega) only [r2, zk_let, Option.bind_some, cond_true, cond_false, if_true, if_false, zbF, zbT, within_in, jn9, k0, k1, k2, k3, k4, k5, k6, k7, k8, k9, k10, k12, k16, k17, k20, k29, k30, k31, k32, k36, k40, k41, k42, k48, k57, k59, k60, k64, k98, k99, k100, k112, k128, k200, k255, k256, k378, k420, k999, k1000000, jN_add, jN_mul, jN_clamp, jN_inbT, Bool.false_eq_true, Bool.true_eq_false, n0]
          rw [show 6 + 3 * (2 * p + e) + 1 = 7 + 3 * (2 * p + e) by omega, show 6 + 3 * (2 * p + e) + 2 = 8 + 3 * (2 * p + e) by omega]
          simp (disch := omega) only [zk_let, Option.bind_some, cond_true, cond_false, if_true, if_false, zbF, zbT, within_in, jn9, k0, k1, k2, k3, k4, k5, k6, k7, k8, k9, k10, k12, k16, k17, k20, k29, k30, k31, k32, k36, k40, k41, k42, k48, k57, k59, k60, k64, k98, k99, k100, k112, k128, k200, k255, k256, k378, k420, k999, k1000000, jN_add, jN_mul, jN_clamp, jN_inbT, Bool.false_eq_true, Bool.true_eq_false, sm3, zk_u3]
      · exact ⟨-jN 1, y, z, by simp [h2], by simp [h2], h⟩
    · exact ⟨-jN 1, y, z, by simp [h1], by simp [h1], h⟩
  · exact ⟨-jN 1, y, z, by simp [hw], by simp [hw], h⟩
theorem undoM {z : zkM} {K : Nat} (hK : z.1 0 8 = jN K) (h : K ≤ 9) : fMd_undo_L22 500 z (jN 0) = some (zk_row z 4 (fun i => if i < 42 then z.1 5 (42 * K + i) else z.1 4 i)) := by
  have := zl_eq (fun n (s : zkM × Int32) => fMd_undo_L22 n s.1 s.2) (fun k => (zk_row z 4 (fun i => if i < k then z.1 5 (42 * K + i) else z.1 4 i), jN k)) 42 (zk_row z 4 (fun i => if i < 42 then z.1 5 (42 * K + i) else z.1 4 i)) ?_ ?_ 500 (by omega)
  · have e : zk_row z 4 (fun i => if i < 0 then z.1 5 (42 * K + i) else z.1 4 i) = z := by
      simp only [Nat.not_lt_zero, if_false]; exact zk_row_self
    simp only [e] at this
    exact this
  · intro n k hk
    simp only [fMd_undo_L22]
    rw [zk_row_off (by omega), zk_row_off (by omega), hK]
    simp (disch := omega) only [zk_let, Option.bind_some, cond_true, cond_false, if_true, if_false, zbF, zbT, within_in, jn9, k0, k1, k2, k3, k4, k5, k6, k7, k8, k9, k10, k12, k16, k17, k20, k29, k30, k31, k32, k36, k40, k41, k42, k48, k57, k59, k60, k64, k98, k99, k100, k112, k128, k200, k255, k256, k378, k420, k999, k1000000, jN_add, jN_mul, jN_clamp, jN_inbT, Bool.false_eq_true, Bool.true_eq_false, jN_le]
    rw [if_neg (by omega)]
    congr 1
    rw [zk_u_row, zk_row_row]
    congr 1
    funext i
    simp only [upd, zk_row_on]
    by_cases c : i = k
    · subst c; rw [if_pos rfl, if_pos (by omega)]
    · rw [if_neg c]
      by_cases c2 : i < k
      · rw [if_pos c2, if_pos (by omega)]
      · rw [if_neg c2, if_neg (by omega)]
  · intro n
    simp only [fMd_undo_L22]
    simp (disch := omega) [zk_let, Option.bind_some, cond_true, cond_false, if_true, if_false, zbF, zbT, within_in, jn9, k0, k1, k2, k3, k4, k5, k6, k7, k8, k9, k10, k12, k16, k17, k20, k29, k30, k31, k32, k36, k40, k41, k42, k48, k57, k59, k60, k64, k98, k99, k100, k112, k128, k200, k255, k256, k378, k420, k999, k1000000, jN_add, jN_mul, jN_clamp, jN_inbT, Bool.false_eq_true, Bool.true_eq_false, jN_le]
theorem pr_undo {y z : zkM} (h : zRel y z) : ∃ v y' z', sX_undo y v y' ∧ sM_undo z v z' ∧ zRel y' z' := by
  obtain ⟨T, R, hA⟩ := h.all
  obtain ⟨h1, h2, h3, h4, h5, h6, ⟨K, nx, hK, hn, e1, e2, e3, hP⟩, h8, h9, h10, h11⟩ := id hA
  have t1 : T 0 1 ≤ 6 := h1.2.1
  have t2 : T 0 2 ≤ 5 := h1.2.2.1
  rw [jN_def] at e1 e2 e3
  unfold sX_undo sM_undo fTp_undo fMd_undo fPast_takeBack
  rw [e1, e2]
  by_cases c : K = 0
  · subst c
    exact ⟨-2, y, z, by simp [k0, zbF], by simp [k0], h⟩
  · simp (disch := omega) only [zk_let, Option.bind_some, cond_true, cond_false, if_true, if_false, zbF, zbT, within_in, jn9, k0, k1, k2, k3, k4, k5, k6, k7, k8, k9, k10, k12, k16, k17, k20, k29, k30, k31, k32, k36, k40, k41, k42, k48, k57, k59, k60, k64, k98, k99, k100, k112, k128, k200, k255, k256, k378, k420, k999, k1000000, jN_add, jN_mul, jN_clamp, jN_inbT, Bool.false_eq_true, Bool.true_eq_false, jN_eq, c, jN_sub]
    have ex : (zk_u y 9 1 (jN (K - 1))).1 9 2 = jN nx := by rw [zk_u_ne (by omega)]; exact e3
    rw [ex]
    have en : (if jN nx ≤ jN 0 then jN 9 else jN nx - jN 1) = jN ((nx + 9) % 10) := by
      simp (disch := omega) only [jN_le]
      by_cases c0 : nx = 0
      · subst c0; rfl
      · rw [if_neg (by omega), jN_sub (by omega)]; congr 1; omega
    rw [en, zk_u_at]
    simp (disch := omega) only [zk_let, Option.bind_some, cond_true, cond_false, if_true, if_false, zbF, zbT, within_in, jn9, k0, k1, k2, k3, k4, k5, k6, k7, k8, k9, k10, k12, k16, k17, k20, k29, k30, k31, k32, k36, k40, k41, k42, k48, k57, k59, k60, k64, k98, k99, k100, k112, k128, k200, k255, k256, k378, k420, k999, k1000000, jN_add, jN_mul, jN_clamp, jN_inbT, Bool.false_eq_true, Bool.true_eq_false, zSX_10, fScene_copyFrom_q, zk_cp_row]
    rw [undoM (K := K - 1) (by rw [zk_u_at]) (by omega)]
    simp only [Option.bind_some]
    have hrow := hP (K - 1) (by omega)
    rw [show (nx + 10 - K + (K - 1)) % 10 = (nx + 9) % 10 by omega] at hrow
    generalize hy : zk_u (zk_u y 9 1 (jN (K - 1))) 9 2 (jN ((nx + 9) % 10)) = y1
    generalize hz : zk_u z 0 8 (jN (K - 1)) = z1
    have hoff : ∀ k, k ≠ 9 → y1.1 k = y.1 k := by intro k k1; rw [← hy, zk_u_off k1, zk_u_off k1]
    have hzo : ∀ k, k ≠ 0 → z1.1 k = z.1 k := by intro k k1; rw [← hz, zk_u_off k1]
    have hz0 : ∀ k, k ≠ 8 → z1.1 0 k = z.1 0 k := by intro k k1; rw [← hz, zk_u_ne k1]
    have hA1 : zAll T R y1 z1 := by
      refine ⟨h1, h2.congr (hoff _ (by omega)) (hoff _ (by omega)) (hoff _ (by omega)) (hoff _ (by omega)) (hoff _ (by omega)) (hoff _ (by omega)) (hoff _ (by omega)) (hoff _ (by omega)), h3.congr (hz0 _ (by omega)) (hz0 _ (by omega)) (hz0 _ (by omega)) (hzo _ (by omega)) (hzo _ (by omega)) (hzo _ (by omega)), h4, by rw [hoff _ (by omega)]; exact h5, by rw [hzo _ (by omega)]; exact h6, ⟨K - 1, (nx + 9) % 10, by omega, by omega, by rw [← hy, zk_u_ne (by omega), zk_u_at]; rfl, by rw [← hz, zk_u_at]; rfl, by rw [← hy, zk_u_at]; rfl, fun j hj => ?_⟩, h8.congr (hoff _ (by omega)) (hoff _ (by omega)) (hoff _ (by omega)) (hzo _ (by omega)) (hzo _ (by omega)), h9.congr (by rw [hoff _ (by omega)]) (hoff _ (by omega)) (hoff _ (by omega)) (hoff _ (by omega)) (hz0 _ (by omega)) (hzo _ (by omega)), h10.congr (by rw [hoff _ (by omega)]) (hoff _ (by omega)) (hz0 _ (by omega)) (hzo _ (by omega)), by rw [← hy, ← hz]; exact h11⟩
      rw [hoff _ (by omega), hzo _ (by omega)]
      have := hP j (by omega)
      rw [show ((nx + 9) % 10 + 10 - (K - 1) + j) % 10 = (nx + 10 - K + j) % 10 by omega]
      exact this
    have hrow1 : zRow (T 0 1) (T 0 2) (fun i => if i < 42 then y1.1 (11 + (nx + 9) % 10) i else y1.1 5 i) (fun i => if i < 42 then z1.1 5 (42 * (K - 1) + i) else z1.1 4 i) := by
      refine zRow.congr t1 t2 hrow (fun i hi => ?_) (fun i hi => ?_)
      · rw [if_pos hi, hoff _ (by omega)]
      · rw [if_pos hi, hzo _ (by omega)]
    obtain ⟨R', s1, s2, s3⟩ := zRow.ex h1 hrow1
    refine ⟨jN (K - 1), _, _, ?_, ?_, (hA1.scene s1 s2 s3).rel⟩
    · rw [zk_row_off (by omega), ← hy, zk_u_ne (by omega), zk_u_at]
    · rw [zk_row_off (by omega), ← hz, zk_u_at]
