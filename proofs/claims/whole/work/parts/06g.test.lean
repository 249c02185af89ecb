theorem zTx.congr {T : Nat → Nat → Nat} {s s' : Nat → Nat → Int32} (h : zTx T s) (h46 : s' 46 = s 46) (h47 : s' 47 = s 47) (h48 : s' 48 = s 48) (h49 : s' 49 = s 49) (h50 : s' 50 = s 50) (h51 : s' 51 = s 51) (h53 : s' 53 = s 53) (h54 : s' 54 = s 54) : zTx T s' := by
  unfold zTx at h ⊢; rw [h46, h47, h48, h49, h50, h51, h53, h54]; exact h
theorem zTm.congr {T : Nat → Nat → Nat} {t t' : Nat → Nat → Int32} (h : zTm T t) (g0 : t' 0 0 = t 0 0) (g2 : t' 0 2 = t 0 2) (g4 : t' 0 4 = t 0 4) (k1 : t' 1 = t 1) (k2 : t' 2 = t 2) (k3 : t' 3 = t 3) : zTm T t' := by
  unfold zTm at h ⊢; rw [g0, g2, g4, k1, k2, k3]; exact h
theorem pr_test {y z : zkM} (h : zRel y z) (a1 : Int32) (a2 : Int32) (a3 : Int32) : ∃ v y' z', sX_test y a1 a2 a3 v y' ∧ sM_test z a1 a2 a3 v z' ∧ zRel y' z' := by
  obtain ⟨T, R, hT, hx, hm, hS, sx, sm, hP, hA, ⟨K, hK, ek1, ek2, hO⟩, hX, hB⟩ := h.ex
  rw [jN_def] at ek1 ek2
  obtain ⟨t1, t2, t3, t4, t5, t6⟩ := id hT
  unfold sX_test sM_test fTp_test fMd_test fTp_isPlank fMd_isPlank fRot_note
  simp only [within_in, hx.2.1, hm.2.1, zbF, k0, k1, k2, k3, k4, k5, k6, k7, k8, k9, k10, k12, k16, k17, k20, k29, k30, k31, k32, k36, k40, k41, k42, k48, k57, k59, k60, k64, k98, k99, k100, k112, k128, k200, k255, k256, k378, k420, k999, k1000000]
  rcases in_lt a1 (K := T 0 1) (by omega) with ⟨hw, p, hp, rfl⟩ | ⟨hw, -⟩
  · simp only [hw, Bool.true_eq_false, if_false]
    rcases in_fr a2 (lo := 1) (hi := 60) (by omega) (by omega) with ⟨h1, l, -, hl, rfl⟩ | ⟨h1, -⟩
    · simp only [h1, Bool.true_eq_false, if_false]
      rcases in_fr a3 (lo := 0) (hi := 1) (by omega) (by omega) with ⟨h2, b, -, hb, rfl⟩ | ⟨h2, -⟩
      · simp only [h2, Bool.true_eq_false, if_false, ek1, ek2]
        by_cases hf : K = 6
        · refine ⟨-jN 3, y, z, ?_, ?_, h⟩
          · rw [hf]; simp (disch := omega) [jN_lt, zbF]
          · rw [hf]; simp (disch := omega)
        · refine ⟨jN (K + 1), zk_u (zk_u (zk_u (zk_u y 27 K (jN p)) 28 K (jN l)) 29 K (jN b)) 26 0 (jN (K + 1)), zk_u (zk_u (zk_u (zk_u z 8 (3 * K) (jN p)) 8 (3 * K + 1) (jN l)) 8 (3 * K + 2) (jN b)) 0 11 (jN (K + 1)), ?_, ?_, zRel.of (T := T) (R := R) hT ?_ ?_ hS ?_ ?_ ?_ ?_ ?_ ?_ hB⟩
          · have e1 : (zk_u y 27 K (jN p)).1 26 0 = jN K := by rw [zk_u_off (by decide)]; exact ek1
            have e2 : (zk_u (zk_u y 27 K (jN p)) 28 K (jN l)).1 26 0 = jN K := by rw [zk_u_off (by decide)]; exact e1
            have e3 : (zk_u (zk_u (zk_u y 27 K (jN p)) 28 K (jN l)) 29 K (jN b)).1 26 0 = jN K := by rw [zk_u_off (by decide)]; exact e2
            simp (disch := omega) only [zk_let, Option.bind_some, cond_true, cond_false, if_true, if_false, zbF, zbT, within_in, jn9, k0, k1, k2, k3, k4, k5, k6, k7, k8, k9, k10, k12, k16, k17, k20, k29, k30, k31, k32, k36, k40, k41, k42, k48, k57, k59, k60, k64, k98, k99, k100, k112, k128, k200, k255, k256, k378, k420, k999, k1000000, jN_add, jN_mul, jN_clamp, jN_inbT, Bool.false_eq_true, Bool.true_eq_false, jN_lt, show K < 6 by omega, e1, e2, e3]
            simp [zk_u]
          · have e1 : (zk_u z 8 (3 * K) (jN p)).1 0 11 = jN K := by rw [zk_u_off (by decide)]; exact ek2
            have e2 : (zk_u (zk_u z 8 (3 * K) (jN p)) 8 (3 * K + 1) (jN l)).1 0 11 = jN K := by rw [zk_u_off (by decide)]; exact e1
            have e3 : (zk_u (zk_u (zk_u z 8 (3 * K) (jN p)) 8 (3 * K + 1) (jN l)) 8 (3 * K + 2) (jN b)).1 0 11 = jN K := by rw [zk_u_off (by decide)]; exact e2
            simp (disch := omega) only [zk_let, Option.bind_some, cond_true, cond_false, if_true, if_false, zbF, zbT, within_in, jn9, k0, k1, k2, k3, k4, k5, k6, k7, k8, k9, k10, k12, k16, k17, k20, k29, k30, k31, k32, k36, k40, k41, k42, k48, k57, k59, k60, k64, k98, k99, k100, k112, k128, k200, k255, k256, k378, k420, k999, k1000000, jN_add, jN_mul, jN_clamp, jN_inbT, Bool.false_eq_true, Bool.true_eq_false, jN_eq, hf, e1, e2, e3]
            simp [zk_u]
          · exact hx.congr rfl rfl rfl rfl rfl rfl rfl rfl
          · exact hm.congr (by simp [zk_u]) (by simp [zk_u]) (by simp [zk_u]) rfl rfl rfl
          · exact sx
          · exact sm
          · exact hP.congr (fun k h1 h2 => by rw [zk_u_off (by omega), zk_u_off (by omega), zk_u_off (by omega), zk_u_off (by omega)]) rfl rfl (by simp [zk_u]) rfl
          · exact hA.congr rfl rfl rfl rfl rfl
          · refine ⟨K + 1, by omega, by simp [zk_u, jN], by simp [zk_u, jN], fun i hi => ?_⟩
            by_cases e : i = K
            · subst e
              refine ⟨p, l, b, hp, hl, hb, by simp [zk_u, jN], ?_, by simp [zk_u, jN], ?_, by simp [zk_u, jN], by simp [zk_u, jN]⟩
              · simp [zk_u, jN]
              · simp [zk_u, jN]
            · obtain ⟨p2, l2, b2, c1, c2, c3, c4, c5, c6, c7, c8, c9⟩ := hO i (by omega)
              refine ⟨p2, l2, b2, c1, c2, c3, ?_, ?_, ?_, ?_, ?_, ?_⟩
              · simp [zk_u, e, c4]
              · rw [zk_u_off (by decide), zk_u_ne (by omega), zk_u_ne (by omega), zk_u_ne (by omega)]; exact c5
              · simp [zk_u, e, c6]
              · rw [zk_u_off (by decide), zk_u_ne (by omega), zk_u_ne (by omega), zk_u_ne (by omega)]; exact c7
              · simp [zk_u, e, c8]
              · rw [zk_u_off (by decide), zk_u_ne (by omega), zk_u_ne (by omega), zk_u_ne (by omega)]; exact c9
          · exact hX.congr rfl rfl (by simp [zk_u]) rfl
      · exact ⟨-jN 1, y, z, by simp [h2], by simp [h2], h⟩
    · exact ⟨-jN 1, y, z, by simp [h1], by simp [h1], h⟩
  · exact ⟨-jN 1, y, z, by simp [hw], by simp [hw], h⟩
