/-! WHAT CAN BE UNDONE -/
def zAll (T R : Nat → Nat → Nat) (y z : zkM) : Prop := zTb T ∧ zTx T y.1 ∧ zTm T z.1 ∧ zSb T R ∧ zSx T R (y.1 5) ∧ zSm T R (z.1 4) ∧ zPast (T 0 1) (T 0 2) y.1 z.1 ∧ zAlbum (T 0 1) (T 0 2) y.1 z.1 ∧ zRot (T 0 1) y.1 z.1 ∧ zText y.1 z.1 ∧ y.2 0 12 = z.2 0 13
theorem zRel.all {y z : zkM} (h : zRel y z) : ∃ T R, zAll T R y z := h.ex
theorem zAll.rel {T R : Nat → Nat → Nat} {y z : zkM} (h : zAll T R y z) : zRel y z := by
  obtain ⟨h1, h2, h3, h4, h5, h6, h7, h8, h9, h10, h11⟩ := h
  exact zRel.of h1 h2 h3 h4 h5 h6 h7 h8 h9 h10 h11
theorem zRow.congr {NP NC : Nat} {r r' t t' : Nat → Int32} (hp : NP ≤ 6) (hc : NC ≤ 5) (h : zRow NP NC r t) (hr : ∀ i, i < 42 → r' i = r i) (ht : ∀ i, i < 42 → t' i = t i) : zRow NP NC r' t' := by
  obtain ⟨⟨g1, g, g2, g3⟩, h2, h3⟩ := h
  refine ⟨⟨by rw [hr 41 (by omega), ht 0 (by omega)]; exact g1, g, g2, by rw [ht 0 (by omega)]; exact g3⟩, fun c hc => ?_, fun e he => ?_⟩
  · rw [hr c (by omega), ht (1 + c) (by omega)]; exact h2 c hc
  · rw [hr (5 + e) (by omega), hr (17 + e) (by omega), hr (29 + e) (by omega), ht (6 + 3 * e) (by omega), ht (7 + 3 * e) (by omega), ht (8 + 3 * e) (by omega)]; exact h3 e he
theorem zSX_10 {n : Nat} (h : n < 10) : zSX.2.2 10 n = 11 + n := by
  rcases (show n = 0 ∨ n = 1 ∨ n = 2 ∨ n = 3 ∨ n = 4 ∨ n = 5 ∨ n = 6 ∨ n = 7 ∨ n = 8 ∨ n = 9 by omega) with rfl | rfl | rfl | rfl | rfl | rfl | rfl | rfl | rfl | rfl <;> rfl
theorem zSX_22 {n : Nat} (h : n < 2) : zSX.2.2 22 n = 23 + n := by
  rcases (show n = 0 ∨ n = 1 by omega) with rfl | rfl <;> rfl
/-- the class remembers -/
theorem remX {y : zkM} {K nx : Nat} (h1 : y.1 9 1 = jN K) (h2 : y.1 9 2 = jN nx) (hK : K ≤ 10) (hn : nx < 10) : fPast_remember y = some (zk_u (zk_u (zk_row y (11 + nx) (fun i => if i < 42 then y.1 5 i else y.1 (11 + nx) i)) 9 2 (jN ((nx + 1) % 10))) 9 1 (jN (if K < 10 then K + 1 else 10))) := by
  unfold fPast_remember fScene_copyTo_q
  rw [h2]
  simp (disch := omega) only [zk_let, Option.bind_some, cond_true, cond_false, if_true, if_false, zbF, zbT, within_in, jn9, k0, k1, k2, k3, k4, k5, k6, k7, k8, k9, k10, k12, k16, k17, k20, k29, k30, k31, k32, k36, k40, k41, k42, k48, k57, k59, k60, k64, k98, k99, k100, k112, k128, k200, k255, k256, k378, k420, k999, k1000000, jN_add, jN_mul, jN_clamp, jN_inbT, Bool.false_eq_true, Bool.true_eq_false, zSX_10, zk_cp_row]
  have e1 : (zk_row y (11 + nx) (fun i => if i < 42 then y.1 5 i else y.1 (11 + nx) i)).1 9 2 = jN nx := by rw [zk_row_off (by omega)]; exact h2
  have e2 : ∀ x, (zk_u (zk_row y (11 + nx) (fun i => if i < 42 then y.1 5 i else y.1 (11 + nx) i)) 9 2 x).1 9 1 = jN K := by
    intro x; rw [zk_u_ne (by omega), zk_row_off (by omega)]; exact h1
  simp (disch := omega) only [e1, e2, jN_add, zk_min, jN_le, jN_lt]
  congr 2
  · congr 1
    by_cases c : 10 ≤ nx + 1
    · rw [if_pos c]; congr 1; omega
    · rw [if_neg c]; congr 1; omega
  · by_cases c : K < 10
    · rw [if_neg (by omega), if_pos c]
    · rw [if_pos (by omega), if_neg c]
theorem remM11 {z : zkM} : fMd_remembers_L11 500 z 0 = some (zk_row z 5 (fun i => if i < 378 then z.1 5 (i + 42) else z.1 5 i)) := by
  have := zl_eq (fun n (s : zkM × Int32) => fMd_remembers_L11 n s.1 s.2) (fun k => (zk_row z 5 (fun i => if i < k then z.1 5 (i + 42) else z.1 5 i), jN k)) 378 (zk_row z 5 (fun i => if i < 378 then z.1 5 (i + 42) else z.1 5 i)) ?_ ?_ 500 (by omega)
  · have e : zk_row z 5 (fun i => if i < 0 then z.1 5 (i + 42) else z.1 5 i) = z := by
      simp only [Nat.not_lt_zero, if_false]; exact zk_row_self
    simp only [e] at this
    rw [k0]; exact this
  · intro n k hk
    simp only [fMd_remembers_L11]
    simp (disch := omega) only [zk_let, Option.bind_some, cond_true, cond_false, if_true, if_false, zbF, zbT, within_in, jn9, k0, k1, k2, k3, k4, k5, k6, k7, k8, k9, k10, k12, k16, k17, k20, k29, k30, k31, k32, k36, k40, k41, k42, k48, k57, k59, k60, k64, k98, k99, k100, k112, k128, k200, k255, k256, k378, k420, k999, k1000000, jN_add, jN_mul, jN_clamp, jN_inbT, Bool.false_eq_true, Bool.true_eq_false, jN_le]
    rw [if_neg (by omega)]
    congr 1
    rw [zk_u_row, zk_row_row]
    congr 1
    funext i
    simp only [upd, zk_row_on]
    by_cases c : i = k
    · subst c; rw [if_pos rfl, if_neg (by omega), if_pos (by omega)]
    · by_cases c2 : i < k
      · rw [if_neg c, if_pos c2, if_pos (by omega)]
      · rw [if_neg c, if_neg c2, if_neg (by omega)]
  · intro n
    simp only [fMd_remembers_L11]
    simp (disch := omega) [zk_let, Option.bind_some, cond_true, cond_false, if_true, if_false, zbF, zbT, within_in, jn9, k0, k1, k2, k3, k4, k5, k6, k7, k8, k9, k10, k12, k16, k17, k20, k29, k30, k31, k32, k36, k40, k41, k42, k48, k57, k59, k60, k64, k98, k99, k100, k112, k128, k200, k255, k256, k378, k420, k999, k1000000, jN_add, jN_mul, jN_clamp, jN_inbT, Bool.false_eq_true, Bool.true_eq_false, jN_le]
theorem remM51 {z : zkM} {K : Nat} (hK : z.1 0 8 = jN K) (h : K ≤ 9) : fMd_remembers_L51 500 z 0 = some (zk_row z 5 (fun i => if 42 * K ≤ i ∧ i < 42 * K + 42 then z.1 4 (i - 42 * K) else z.1 5 i)) := by
  have := zl_eq (fun n (s : zkM × Int32) => fMd_remembers_L51 n s.1 s.2) (fun k => (zk_row z 5 (fun i => if 42 * K ≤ i ∧ i < 42 * K + k then z.1 4 (i - 42 * K) else z.1 5 i), jN k)) 42 (zk_row z 5 (fun i => if 42 * K ≤ i ∧ i < 42 * K + 42 then z.1 4 (i - 42 * K) else z.1 5 i)) ?_ ?_ 500 (by omega)
  · have e : zk_row z 5 (fun i => if 42 * K ≤ i ∧ i < 42 * K + 0 then z.1 4 (i - 42 * K) else z.1 5 i) = z := by
      rw [show (fun i => if 42 * K ≤ i ∧ i < 42 * K + 0 then z.1 4 (i - 42 * K) else z.1 5 i) = z.1 5 from funext (fun i => if_neg (by omega))]
      exact zk_row_self
    simp only [e] at this
    rw [k0]; exact this
  · intro n k hk
    simp only [fMd_remembers_L51]
    rw [zk_row_off (by omega), zk_row_off (by omega), hK]
    simp (disch := omega) only [zk_let, Option.bind_some, cond_true, cond_false, if_true, if_false, zbF, zbT, within_in, jn9, k0, k1, k2, k3, k4, k5, k6, k7, k8, k9, k10, k12, k16, k17, k20, k29, k30, k31, k32, k36, k40, k41, k42, k48, k57, k59, k60, k64, k98, k99, k100, k112, k128, k200, k255, k256, k378, k420, k999, k1000000, jN_add, jN_mul, jN_clamp, jN_inbT, Bool.false_eq_true, Bool.true_eq_false, jN_le]
    rw [if_neg (by omega)]
    congr 1
    rw [zk_u_row, zk_row_row]
    congr 1
    funext i
    simp only [upd, zk_row_on]
    by_cases c : i = 42 * K + k
    · rw [if_pos c, if_pos (by omega), show i - 42 * K = k by omega]
    · rw [if_neg c]
      by_cases c2 : 42 * K ≤ i ∧ i < 42 * K + k
      · rw [if_pos c2, if_pos (by omega)]
      · rw [if_neg c2, if_neg (by omega)]
  · intro n
    simp only [fMd_remembers_L51]
    simp (disch := omega) [zk_let, Option.bind_some, cond_true, cond_false, if_true, if_false, zbF, zbT, within_in, jn9, k0, k1, k2, k3, k4, k5, k6, k7, k8, k9, k10, k12, k16, k17, k20, k29, k30, k31, k32, k36, k40, k41, k42, k48, k57, k59, k60, k64, k98, k99, k100, k112, k128, k200, k255, k256, k378, k420, k999, k1000000, jN_add, jN_mul, jN_clamp, jN_inbT, Bool.false_eq_true, Bool.true_eq_false, jN_le]
theorem remM {z : zkM} {K : Nat} (hK : z.1 0 8 = jN K) (h : K ≤ 10) : fMd_remembers z = some (zk_u (zk_row z 5 (fun i => if K < 10 then (if 42 * K ≤ i ∧ i < 42 * K + 42 then z.1 4 (i - 42 * K) else z.1 5 i) else (if i < 378 then z.1 5 (i + 42) else if i < 420 then z.1 4 (i - 378) else z.1 5 i))) 0 8 (jN (if K < 10 then K + 1 else 10))) := by
  unfold fMd_remembers
  rw [hK]
  by_cases c : K < 10
  · simp (disch := omega) only [zk_let, Option.bind_some, cond_true, cond_false, if_true, if_false, zbF, zbT, within_in, jn9, k0, k1, k2, k3, k4, k5, k6, k7, k8, k9, k10, k12, k16, k17, k20, k29, k30, k31, k32, k36, k40, k41, k42, k48, k57, k59, k60, k64, k98, k99, k100, k112, k128, k200, k255, k256, k378, k420, k999, k1000000, jN_add, jN_mul, jN_clamp, jN_inbT, Bool.false_eq_true, Bool.true_eq_false, jN_eq, c, if_true]
    rw [if_neg (by omega)]
    simp only [Option.bind_some, ← k0]
    rw [remM51 hK (by omega)]
    simp only [Option.bind_some]
    rw [zk_row_off (by omega), hK, jN_add]
  · have c1 : K = 10 := by omega
    subst c1
    simp only [Nat.lt_irrefl, if_false]
    rw [if_pos k10.symm, remM11]
    simp only [Option.bind_some, zk_let]
    rw [zk_row_off (by omega), hK, k1, jN_sub (by omega)]
    rw [remM51 (K := 9) (by rw [zk_u_at]) (by omega)]
    simp only [Option.bind_some]
    rw [zk_row_off (by omega), zk_u_at, jN_add]
    congr 1
    apply Prod.ext
    · funext a b
      simp only [zk_u, zk_row]
      by_cases a0 : a = 0
      · subst a0; by_cases b8 : b = 8 <;> simp [b8]
      · by_cases a5 : a = 5
        · subst a5
          simp
          by_cases c2 : b < 378
          · rw [if_neg (by omega), if_pos c2, if_pos c2]
          · by_cases c3 : b < 420
            · rw [if_pos (by omega), if_neg c2, if_pos c3]
            · rw [if_neg (by omega), if_neg c2, if_neg c2, if_neg c3]
        · simp [a0, a5]
    · rfl
