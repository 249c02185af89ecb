theorem zAll.rem {T R : Nat → Nat → Nat} {y z : zkM} (h : zAll T R y z) : ∃ y1 z1, fPast_remember y = some y1 ∧ fMd_remembers z = some z1 ∧ zAll T R y1 z1 := by
  obtain ⟨h1, h2, h3, h4, h5, h6, ⟨K, nx, hK, hn, e1, e2, e3, hP⟩, h8, h9, h10, h11⟩ := h
  have t1 : T 0 1 ≤ 6 := h1.2.1
  have t2 : T 0 2 ≤ 5 := h1.2.2.1
  rw [jN_def] at e1 e2 e3
  refine ⟨_, _, remX e1 e3 hK hn, remM e2 hK, ?_⟩
  generalize hy : zk_u (zk_u (zk_row y (11 + nx) (fun i => if i < 42 then y.1 5 i else y.1 (11 + nx) i)) 9 2 (jN ((nx + 1) % 10))) 9 1 (jN (if K < 10 then K + 1 else 10)) = y1
  generalize hzz : zk_u (zk_row z 5 (fun i => if K < 10 then (if 42 * K ≤ i ∧ i < 42 * K + 42 then z.1 4 (i - 42 * K) else z.1 5 i) else (if i < 378 then z.1 5 (i + 42) else if i < 420 then z.1 4 (i - 378) else z.1 5 i))) 0 8 (jN (if K < 10 then K + 1 else 10)) = z1
  have hoff : ∀ k, k ≠ 9 → k ≠ 11 + nx → y1.1 k = y.1 k := by
    intro k k1 k2; rw [← hy, zk_u_off k1, zk_u_off k1, zk_row_off k2]
  have hon : y1.1 (11 + nx) = (fun i => if i < 42 then y.1 5 i else y.1 (11 + nx) i) := by
    rw [← hy, zk_u_off (by omega), zk_u_off (by omega), zk_row_on]
  have hz : ∀ k, k ≠ 0 → k ≠ 5 → z1.1 k = z.1 k := by
    intro k k1 k2; rw [← hzz, zk_u_off k1, zk_row_off k2]
  have hz0 : ∀ i, i ≠ 8 → z1.1 0 i = z.1 0 i := by
    intro i k1; rw [← hzz, zk_u_ne k1, zk_row_off (by omega)]
  have hz5 : z1.1 5 = (fun i => if K < 10 then (if 42 * K ≤ i ∧ i < 42 * K + 42 then z.1 4 (i - 42 * K) else z.1 5 i) else (if i < 378 then z.1 5 (i + 42) else if i < 420 then z.1 4 (i - 378) else z.1 5 i)) := by
    rw [← hzz, zk_u_off (by omega), zk_row_on]
  refine ⟨h1, h2.congr (hoff _ (by omega) (by omega)) (hoff _ (by omega) (by omega)) (hoff _ (by omega) (by omega)) (hoff _ (by omega) (by omega)) (hoff _ (by omega) (by omega)) (hoff _ (by omega) (by omega)) (hoff _ (by omega) (by omega)) (hoff _ (by omega) (by omega)), h3.congr (hz0 _ (by omega)) (hz0 _ (by omega)) (hz0 _ (by omega)) (hz _ (by omega) (by omega)) (hz _ (by omega) (by omega)) (hz _ (by omega) (by omega)), h4, ?_, ?_, ⟨if K < 10 then K + 1 else 10, (nx + 1) % 10, ?_, by omega, by rw [← hy, zk_u_at]; rfl, by rw [← hzz, zk_u_at]; rfl, by rw [← hy, zk_u_ne (by omega), zk_u_at]; rfl, ?_⟩, h8.congr (hoff _ (by omega) (by omega)) (hoff _ (by omega) (by omega)) (hoff _ (by omega) (by omega)) (hz _ (by omega) (by omega)) (hz _ (by omega) (by omega)), h9.congr (by rw [hoff _ (by omega) (by omega)]) (hoff _ (by omega) (by omega)) (hoff _ (by omega) (by omega)) (hoff _ (by omega) (by omega)) (hz0 _ (by omega)) (hz _ (by omega) (by omega)), h10.congr (by rw [hoff _ (by omega) (by omega)]) (hoff _ (by omega) (by omega)) (hz0 _ (by omega)) (hz _ (by omega) (by omega)), by rw [← hy, ← hzz]; exact h11⟩
  · rw [hoff _ (by omega) (by omega)]; exact h5
  · rw [hz _ (by omega) (by omega)]; exact h6
  · split <;> omega
  · intro j hj
    have hnow : zRow (T 0 1) (T 0 2) (y.1 5) (z.1 4) := zRow.of h4 h5 h6
    by_cases c : K < 10
    · rw [if_pos c] at hj ⊢
      by_cases cj : j = K
      · subst cj
        rw [show ((nx + 1) % 10 + 10 - (j + 1) + j) % 10 = nx by omega, hon, hz5]
        refine zRow.congr t1 t2 hnow (fun i hi => by simp only [if_pos hi]) (fun i hi => ?_)
        dsimp only
        rw [if_pos c, if_pos (by omega), show 42 * j + i - 42 * j = i by omega]
      · rw [hoff _ (by omega) (by omega), hz5]
        refine zRow.congr t1 t2 (hP j (by omega)) (fun i hi => ?_) (fun i hi => ?_)
        · rw [show ((nx + 1) % 10 + 10 - (K + 1) + j) % 10 = (nx + 10 - K + j) % 10 by omega]
        · dsimp only
          rw [if_pos c, if_neg (by omega)]
    · have cK : K = 10 := by omega
      subst cK
      rw [if_neg c] at hj ⊢
      by_cases cj : j = 9
      · subst cj
        rw [show ((nx + 1) % 10 + 10 - 10 + 9) % 10 = nx by omega, hon, hz5]
        refine zRow.congr t1 t2 hnow (fun i hi => by simp only [if_pos hi]) (fun i hi => ?_)
        dsimp only
        rw [if_neg c, if_neg (by omega), if_pos (by omega), show 42 * 9 + i - 378 = i by omega]
      · rw [hoff _ (by omega) (by omega), hz5]
        refine zRow.congr t1 t2 (hP (j + 1) (by omega)) (fun i hi => ?_) (fun i hi => ?_)
        · rw [show ((nx + 1) % 10 + 10 - 10 + j) % 10 = (nx + 10 - 10 + (j + 1)) % 10 by omega]
        · dsimp only
          rw [if_neg c, if_pos (by omega), show 42 * j + i + 42 = 42 * (j + 1) + i by omega]
theorem zAll.scene {T R R' : Nat → Nat → Nat} {y z : zkM} {r t : Nat → Int32} (h : zAll T R y z) (hS : zSb T R') (sx : zSx T R' r) (sm : zSm T R' t) : zAll T R' (zk_row y 5 r) (zk_row z 4 t) := by
  obtain ⟨h1, h2, h3, h4, h5, h6, h7, h8, h9, h10, h11⟩ := h
  refine ⟨h1, h2.congr rfl rfl rfl rfl rfl rfl rfl rfl, h3.congr rfl rfl rfl rfl rfl rfl, hS, by rw [zk_row_on]; exact sx, by rw [zk_row_on]; exact sm, h7.congr (fun k h1 h2 => zk_row_off (by omega)) rfl rfl rfl rfl, h8.congr rfl rfl rfl rfl rfl, h9.congr rfl rfl rfl rfl rfl rfl, h10.congr rfl rfl rfl rfl, h11⟩
def setR (R : Nat → Nat → Nat) (i j v : Nat) : Nat → Nat → Nat := fun a b => if a = i ∧ b = j then v else R a b
theorem setR_ne {R : Nat → Nat → Nat} {i j v a b : Nat} (h : a ≠ i) : setR R i j v a b = R a b := by simp [setR, h]
theorem setR_ne2 {R : Nat → Nat → Nat} {i j v a b : Nat} (h : b ≠ j) : setR R i j v a b = R a b := by simp [setR, h]
theorem setR_at {R : Nat → Nat → Nat} {i j v : Nat} : setR R i j v i j = v := by simp [setR]
theorem pr_stands {y z : zkM} (h : zRel y z) (a1 : Int32) (a2 : Int32) : ∃ v y' z', sX_stands y a1 a2 v y' ∧ sM_stands z a1 a2 v z' ∧ zRel y' z' := by
  obtain ⟨T, R, hA⟩ := h.all
  obtain ⟨hT, hx, hm, hS, sx, sm, -⟩ := id hA
  obtain ⟨t1, t2, t3, t4, t5, t6⟩ := id hT
  unfold sX_stands sM_stands fTp_stands fMd_stands fTp_isChild fMd_isChild fTp_isPlank fMd_isPlank fScene_plankUnder fScene_put
  simp only [within_in, hx.2.2.1, hm.2.2.1, hx.2.1, hm.2.1, zbF, jn9, k0, k1, k2, k3, k4, k5, k6, k7, k8, k9, k10, k12, k16, k17, k20, k29, k30, k31, k32, k36, k40, k41, k42, k48, k57, k59, k60, k64, k98, k99, k100, k112, k128, k200, k255, k256, k378, k420, k999, k1000000]
  rcases in_lt a1 (K := T 0 2) (by omega) with ⟨hw, c, hc, rfl⟩ | ⟨hw, -⟩
  · simp only [hw, Bool.true_eq_false, if_false]
    obtain ⟨y1, z1, r1, r2, hA1⟩ := hA.rem
    have fin : ∀ n : Nat, ∃ v y' z', (fPast_remember y).bind (fun q1 => (bif zk_inb (jN c) 42 then some (q1.1 5 (Int32.toNatClampNeg (jN c))) else none).bind (fun q2 => (bif zk_inb (jN c) 42 then zk_let (zk_u q1 5 (Int32.toNatClampNeg (jN c)) (zOn T n)) (fun m2 => some m2) else none).bind (fun q3 => some (q2, q3)))) = some (v, y') ∧ (fMd_remembers z).bind (fun q1 => (bif zk_inb (jN 1 + jN c) 42 then zk_let (q1.1 4 (Int32.toNatClampNeg (jN 1 + jN c))) (fun v3 => (bif zk_inb (jN 1 + jN c) 42 then zk_let (zk_u q1 4 (Int32.toNatClampNeg (jN 1 + jN c)) (zOn T n)) (fun m5 => some (v3, m5)) else none)) else none)) = some (v, z') ∧ zRel y' z' := by
      intro n
      obtain ⟨-, -, -, -, sx1, sm1, -⟩ := id hA1
      refine ⟨zOn T (R 3 c), zk_u y1 5 c (zOn T n), zk_u z1 4 (1 + c) (zOn T n), ?_, ?_, ?_⟩
      · simp (disch := omega) only [r1, zk_let, Option.bind_some, cond_true, cond_false, if_true, if_false, zbF, zbT, within_in, jn9, k0, k1, k2, k3, k4, k5, k6, k7, k8, k9, k10, k12, k16, k17, k20, k29, k30, k31, k32, k36, k40, k41, k42, k48, k57, k59, k60, k64, k98, k99, k100, k112, k128, k200, k255, k256, k378, k420, k999, k1000000, jN_add, jN_mul, jN_clamp, jN_inbT, Bool.false_eq_true, Bool.true_eq_false, sx1.2.1 c hc]
      · simp (disch := omega) only [r2, zk_let, Option.bind_some, cond_true, cond_false, if_true, if_false, zbF, zbT, within_in, jn9, k0, k1, k2, k3, k4, k5, k6, k7, k8, k9, k10, k12, k16, k17, k20, k29, k30, k31, k32, k36, k40, k41, k42, k48, k57, k59, k60, k64, k98, k99, k100, k112, k128, k200, k255, k256, k378, k420, k999, k1000000, jN_add, jN_mul, jN_clamp, jN_inbT, Bool.false_eq_true, Bool.true_eq_false, sm1.2.1 c hc]
      · rw [zk_u_row, zk_u_row]
        refine (hA1.scene (R' := setR R 3 c n) ?_ ?_ ?_).rel
        · refine ⟨by rw [setR_ne (by omega)]; exact hS.1, fun e he => ?_⟩
          rw [setR_ne (by omega), setR_ne (by omega), setR_ne (by omega)]; exact hS.2 e he
        · refine ⟨by rw [setR_ne (by omega), upd_ne (by omega)]; exact sx1.1, fun d hd => ?_, fun e he => ?_⟩
          · by_cases cd : d = c
            · subst cd; rw [setR_at, upd_same]
            · rw [setR_ne2 cd, upd_ne cd]; exact sx1.2.1 d hd
          · rw [setR_ne (by omega), setR_ne (by omega), setR_ne (by omega), upd_ne (by omega), upd_ne (by omega), upd_ne (by omega)]; exact sx1.2.2 e he
        · refine ⟨by rw [setR_ne (by omega), upd_ne (by omega)]; exact sm1.1, fun d hd => ?_, fun e he => ?_⟩
          · by_cases cd : d = c
            · subst cd; rw [setR_at, upd_same]
            · rw [setR_ne2 cd, upd_ne (by omega)]; exact sm1.2.1 d hd
          · rw [setR_ne (by omega), setR_ne (by omega), setR_ne (by omega), upd_ne (by omega), upd_ne (by omega), upd_ne (by omega)]; exact sm1.2.2 e he
    by_cases c9 : a2 = jNo
    · subst c9
      simp only [if_true]
      have := fin 6
      rw [show zOn T 6 = jNo from if_neg (by omega)] at this
      exact this
    · simp only [c9, if_false]
      rcases in_lt a2 (K := T 0 1) (by omega) with ⟨h2, p, hp, rfl⟩ | ⟨h2, -⟩
      · simp only [h2, Bool.true_eq_false, if_false]
        have := fin p
        rw [show zOn T p = jN p from if_pos hp] at this
        exact this
      · exact ⟨-jN 1, y, z, by simp [h2], by simp [h2], h⟩
  · exact ⟨-jN 1, y, z, by simp [hw], by simp [hw], h⟩
