theorem keepM {z : zkM} {m : Nat} (h : m < 2) : fMd_keep_L13 500 z (jN m) (jN 0) = some (zk_row z 6 (fun i => if 42 * m ≤ i ∧ i < 42 * m + 42 then z.1 4 (i - 42 * m) else z.1 6 i)) := by
  have := zl_eq (fun n (s : zkM × Int32) => fMd_keep_L13 n s.1 (jN m) s.2) (fun k => (zk_row z 6 (fun i => if 42 * m ≤ i ∧ i < 42 * m + k then z.1 4 (i - 42 * m) else z.1 6 i), jN k)) 42 (zk_row z 6 (fun i => if 42 * m ≤ i ∧ i < 42 * m + 42 then z.1 4 (i - 42 * m) else z.1 6 i)) ?_ ?_ 500 (by omega)
  · have e : zk_row z 6 (fun i => if 42 * m ≤ i ∧ i < 42 * m + 0 then z.1 4 (i - 42 * m) else z.1 6 i) = z := by
      rw [show (fun i => if 42 * m ≤ i ∧ i < 42 * m + 0 then z.1 4 (i - 42 * m) else z.1 6 i) = z.1 6 from funext (fun i => if_neg (by omega))]
      exact zk_row_self
    simp only [e] at this
    exact this
  · intro n k hk
    simp only [fMd_keep_L13]
    rw [zk_row_off (by omega)]
    simp (disch := omega) only [zk_let, Option.bind_some, cond_true, cond_false, if_true, if_false, zbF, zbT, within_in, jn9, k0, k1, k2, k3, k4, k5, k6, k7, k8, k9, k10, k12, k16, k17, k20, k29, k30, k31, k32, k36, k40, k41, k42, k48, k57, k59, k60, k64, k98, k99, k100, k112, k128, k200, k255, k256, k378, k420, k999, k1000000, jN_add, jN_mul, jN_clamp, jN_inbT, Bool.false_eq_true, Bool.true_eq_false, jN_le]
    rw [if_neg (by omega)]
    congr 1
    rw [zk_u_row, zk_row_row]
    congr 1
    funext i
    simp only [upd, zk_row_on]
    by_cases c : i = 42 * m + k
    · rw [if_pos c, if_pos (by omega), show i - 42 * m = k by omega]
    · rw [if_neg c]
      by_cases c2 : 42 * m ≤ i ∧ i < 42 * m + k
      · rw [if_pos c2, if_pos (by omega)]
      · rw [if_neg c2, if_neg (by omega)]
  · intro n
    simp only [fMd_keep_L13]
    simp (disch := omega) [zk_let, Option.bind_some, cond_true, cond_false, if_true, if_false, zbF, zbT, within_in, jn9, k0, k1, k2, k3, k4, k5, k6, k7, k8, k9, k10, k12, k16, k17, k20, k29, k30, k31, k32, k36, k40, k41, k42, k48, k57, k59, k60, k64, k98, k99, k100, k112, k128, k200, k255, k256, k378, k420, k999, k1000000, jN_add, jN_mul, jN_clamp, jN_inbT, Bool.false_eq_true, Bool.true_eq_false, jN_le]
theorem backM {z : zkM} {m : Nat} (h : m < 2) : fMd_back_L25 500 z (jN m) (jN 0) = some (zk_row z 4 (fun i => if i < 42 then z.1 6 (42 * m + i) else z.1 4 i)) := by
  have := zl_eq (fun n (s : zkM × Int32) => fMd_back_L25 n s.1 (jN m) s.2) (fun k => (zk_row z 4 (fun i => if i < k then z.1 6 (42 * m + i) else z.1 4 i), jN k)) 42 (zk_row z 4 (fun i => if i < 42 then z.1 6 (42 * m + i) else z.1 4 i)) ?_ ?_ 500 (by omega)
  · have e : zk_row z 4 (fun i => if i < 0 then z.1 6 (42 * m + i) else z.1 4 i) = z := by
      simp only [Nat.not_lt_zero, if_false]; exact zk_row_self
    simp only [e] at this
    exact this
  · intro n k hk
    simp only [fMd_back_L25]
    rw [zk_row_off (by omega)]
    simp (disch := omega) only [zk_let, Option.bind_some, cond_true, cond_false, if_true, if_false, zbF, zbT, within_in, jn9, k0, k1, k2, k3, k4, k5, k6, k7, k8, k9, k10, k12, k16, k17, k20, k29, k30, k31, k32, k36, k40, k41, k42, k48, k57, k59, k60, k64, k98, k99, k100, k112, k128, k200, k255, k256, k378, k420, k999, k1000000, jN_add, jN_mul, jN_clamp, jN_inbT, Bool.false_eq_true, Bool.true_eq_false, jN_le]
    rw [if_neg (by omega)]
    congr 1
    rw [zk_u_row, zk_row_row]
    congr 1
    funext i
    simp only [upd, zk_row_on]
    by_cases c : i = k
    · subst c; rw [if_pos rfl, if_pos (by omega)]
    · rw [if_neg c]
      by_cases c2 : i < k
      · rw [if_pos c2, if_pos (by omega)]
      · rw [if_neg c2, if_neg (by omega)]
  · intro n
    simp only [fMd_back_L25]
    simp (disch := omega) [zk_let, Option.bind_some, cond_true, cond_false, if_true, if_false, zbF, zbT, within_in, jn9, k0, k1, k2, k3, k4, k5, k6, k7, k8, k9, k10, k12, k16, k17, k20, k29, k30, k31, k32, k36, k40, k41, k42, k48, k57, k59, k60, k64, k98, k99, k100, k112, k128, k200, k255, k256, k378, k420, k999, k1000000, jN_add, jN_mul, jN_clamp, jN_inbT, Bool.false_eq_true, Bool.true_eq_false, jN_le]
theorem pr_keep {y z : zkM} (h : zRel y z) (a1 : Int32) : ∃ v y' z', sX_keep y a1 v y' ∧ sM_keep z a1 v z' ∧ zRel y' z' := by
  obtain ⟨T, R, hA⟩ := h.all
  obtain ⟨h1, h2, h3, h4, h5, h6, h7, h8, h9, h10, h11⟩ := id hA
  have t1 : T 0 1 ≤ 6 := h1.2.1
  have t2 : T 0 2 ≤ 5 := h1.2.2.1
  unfold sX_keep sM_keep fTp_keep fMd_keep fAlbum_paint fScene_copyTo_q fScene_gales
  simp only [within_in, zbF, k0, k1, k2, k3, k4, k5, k6, k7, k8, k9, k10, k12, k16, k17, k20, k29, k30, k31, k32, k36, k40, k41, k42, k48, k57, k59, k60, k64, k98, k99, k100, k112, k128, k200, k255, k256, k378, k420, k999, k1000000]
  rcases in_fr a1 (lo := 0) (hi := 1) (by omega) (by omega) with ⟨hw, m, -, hm, rfl⟩ | ⟨hw, -⟩
  · simp only [hw, Bool.true_eq_false, if_false]
    rw [keepM (by omega)]
    simp (disch := omega) only [zk_let, Option.bind_some, cond_true, cond_false, if_true, if_false, zbF, zbT, within_in, jn9, k0, k1, k2, k3, k4, k5, k6, k7, k8, k9, k10, k12, k16, k17, k20, k29, k30, k31, k32, k36, k40, k41, k42, k48, k57, k59, k60, k64, k98, k99, k100, k112, k128, k200, k255, k256, k378, k420, k999, k1000000, jN_add, jN_mul, jN_clamp, jN_inbT, Bool.false_eq_true, Bool.true_eq_false, zSX_22, zk_cp_row]
    generalize hy : zk_u (zk_row y (23 + m) (fun i => if i < 42 then y.1 5 i else y.1 (23 + m) i)) 25 m (jN 1) = y1
    generalize hz : zk_u (zk_row z 6 (fun i => if 42 * m ≤ i ∧ i < 42 * m + 42 then z.1 4 (i - 42 * m) else z.1 6 i)) 7 m (jN 1) = z1
    have hoff : ∀ k, k ≠ 25 → k ≠ 23 + m → y1.1 k = y.1 k := by intro k k1 k2; rw [← hy, zk_u_off k1, zk_row_off k2]
    have hzo : ∀ k, k ≠ 6 → k ≠ 7 → z1.1 k = z.1 k := by intro k k1 k2; rw [← hz, zk_u_off k2, zk_row_off k1]
    have o5 := hoff 5 (by omega) (by omega)
    have o4 := hzo 4 (by omega) (by omega)
    refine ⟨jN (R 4 0), y1, z1, by rw [o5, h5.1], by rw [o4, h6.1], zRel.of (T := T) (R := R) h1 ?_ ?_ h4 (by rw [o5]; exact h5) (by rw [o4]; exact h6) ?_ ?_ ?_ ?_ ?_⟩
    · exact h2.congr (hoff _ (by omega) (by omega)) (hoff _ (by omega) (by omega)) (hoff _ (by omega) (by omega)) (hoff _ (by omega) (by omega)) (hoff _ (by omega) (by omega)) (hoff _ (by omega) (by omega)) (hoff _ (by omega) (by omega)) (hoff _ (by omega) (by omega))
    · exact h3.congr (by rw [hzo _ (by omega) (by omega)]) (by rw [hzo _ (by omega) (by omega)]) (by rw [hzo _ (by omega) (by omega)]) (hzo _ (by omega) (by omega)) (hzo _ (by omega) (by omega)) (hzo _ (by omega) (by omega))
    · exact h7.congr (fun k k1 k2 => hoff k (by omega) (by omega)) (by rw [hoff _ (by omega) (by omega)]) (by rw [hoff _ (by omega) (by omega)]) (by rw [hzo _ (by omega) (by omega)]) (hzo _ (by omega) (by omega))
    · intro i hi
      by_cases ci : i = m
      · subst ci
        refine ⟨by rw [← hy, ← hz, zk_u_at, zk_u_at], Or.inr ⟨by rw [← hz, zk_u_at]; rfl, ?_⟩⟩
        refine zRow.congr t1 t2 (zRow.of h4 h5 h6) (fun k hk => ?_) (fun k hk => ?_)
        · rw [← hy, zk_u_off (by omega), zk_row_on]; exact if_pos hk
        · rw [← hz, zk_u_off (by omega), zk_row_on]
          rw [if_pos (by omega), show 42 * i + k - 42 * i = k by omega]
      · have := h8 i hi
        have e1 : y1.1 25 i = y.1 25 i := by rw [← hy, zk_u_ne ci, zk_row_off (by omega)]
        have e2 : z1.1 7 i = z.1 7 i := by rw [← hz, zk_u_ne ci, zk_row_off (by omega)]
        rw [e1, e2, hoff _ (by omega) (by omega)]
        refine ⟨this.1, ?_⟩
        rcases this.2 with h | ⟨g1, g2⟩
        · exact Or.inl h
        · refine Or.inr ⟨g1, zRow.congr t1 t2 g2 (fun k hk => rfl) (fun k hk => ?_)⟩
          rw [← hz, zk_u_off (by omega), zk_row_on]
          rw [if_neg (by omega)]
    · exact h9.congr (by rw [hoff _ (by omega) (by omega)]) (hoff _ (by omega) (by omega)) (hoff _ (by omega) (by omega)) (hoff _ (by omega) (by omega)) (by rw [hzo _ (by omega) (by omega)]) (hzo _ (by omega) (by omega))
    · exact h10.congr (by rw [hoff _ (by omega) (by omega)]) (hoff _ (by omega) (by omega)) (by rw [hzo _ (by omega) (by omega)]) (hzo _ (by omega) (by omega))
    · rw [← hy, ← hz]; exact h11
  · exact ⟨-jN 1, y, z, by simp [hw], by simp [hw], h⟩
theorem pr_back {y z : zkM} (h : zRel y z) (a1 : Int32) : ∃ v y' z', sX_back y a1 v y' ∧ sM_back z a1 v z' ∧ zRel y' z' := by
  obtain ⟨T, R, hA⟩ := h.all
  obtain ⟨h1, h2, h3, h4, h5, h6, h7, h8, h9, h10, h11⟩ := id hA
  have t1 : T 0 1 ≤ 6 := h1.2.1
  have t2 : T 0 2 ≤ 5 := h1.2.2.1
  unfold sX_back sM_back fTp_back fMd_back fAlbum_show fScene_copyFrom_q fScene_gales fPast_lose
  simp only [within_in, zbF, k0, k1, k2, k3, k4, k5, k6, k7, k8, k9, k10, k12, k16, k17, k20, k29, k30, k31, k32, k36, k40, k41, k42, k48, k57, k59, k60, k64, k98, k99, k100, k112, k128, k200, k255, k256, k378, k420, k999, k1000000]
  rcases in_fr a1 (lo := 0) (hi := 1) (by omega) (by omega) with ⟨hw, m, -, hm, rfl⟩ | ⟨hw, -⟩
  · simp only [hw, Bool.true_eq_false, if_false]
    obtain ⟨a1, a2⟩ := h8 m (by omega)
    simp (disch := omega) only [zk_let, Option.bind_some, cond_true, cond_false, if_true, if_false, zbF, zbT, within_in, jn9, k0, k1, k2, k3, k4, k5, k6, k7, k8, k9, k10, k12, k16, k17, k20, k29, k30, k31, k32, k36, k40, k41, k42, k48, k57, k59, k60, k64, k98, k99, k100, k112, k128, k200, k255, k256, k378, k420, k999, k1000000, jN_add, jN_mul, jN_clamp, jN_inbT, Bool.false_eq_true, Bool.true_eq_false, zSX_22, zk_cp_row, a1]
    rcases a2 with a2 | ⟨a2, a3⟩
    · exact ⟨-jN 2, y, z, by simp [a2, ← i0, k0], by simp [a2, ← i0, k0], h⟩
    · have n0 : ¬ z.1 7 m = jN 0 := by rw [a2]; decide
      simp only [n0, if_false, Option.bind_some, Bool.true_eq_false]
      rw [backM (by omega)]
      simp only [Option.bind_some]
      have hrow : zRow (T 0 1) (T 0 2) (fun i => if i < 42 then y.1 (23 + m) i else y.1 5 i) (fun i => if i < 42 then z.1 6 (42 * m + i) else z.1 4 i) := zRow.congr t1 t2 a3 (fun i hi => by rw [if_pos hi]) (fun i hi => by rw [if_pos hi])
      obtain ⟨R', s1, s2, s3⟩ := zRow.ex h1 hrow
      obtain ⟨b1, b2, b3, b4, b5, b6, b7, b8, b9, b10, b11⟩ := hA.scene s1 s2 s3
      generalize zk_row y 5 (fun i => if i < 42 then y.1 (23 + m) i else y.1 5 i) = y1 at *
      generalize zk_row z 4 (fun i => if i < 42 then z.1 6 (42 * m + i) else z.1 4 i) = z1 at *
      refine ⟨jN (R' 4 0), zk_u (zk_u y1 9 1 (jN 0)) 9 2 (jN 0), zk_u z1 0 8 (jN 0), ?_, ?_, zRel.of (T := T) (R := R') h1 (b2.congr rfl rfl rfl rfl rfl rfl rfl rfl) (b3.congr (by simp [zk_u]) (by simp [zk_u]) (by simp [zk_u]) rfl rfl rfl) b4 b5 b6 ⟨0, 0, by omega, by omega, by simp [zk_u, jN], by simp [zk_u, jN], by simp [zk_u, jN], fun j hj => by omega⟩ (b8.congr rfl rfl rfl rfl rfl) (b9.congr rfl rfl rfl rfl (by simp [zk_u]) rfl) (b10.congr rfl rfl (by simp [zk_u]) rfl) b11⟩
      · rw [zk_u_off (by omega), zk_u_off (by omega), b5.1]
      · rw [zk_u_off (by omega), b6.1]
  · exact ⟨-jN 1, y, z, by simp [hw], by simp [hw], h⟩
