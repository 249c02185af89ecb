def zEm (T R : Nat → Nat → Nat) (o : Nat) (t : Nat → Int32) : Prop := ∀ e, e < 2 * T 0 1 → t (o + 3 * e) = jN (R 0 e) ∧ t (o + 3 * e + 1) = jN (R 1 e) ∧ t (o + 3 * e + 2) = jN (R 2 e)
theorem zEm.set12 {T R : Nat → Nat → Nat} {r : Nat → Int32} {o e w x : Nat} (h : zEm T R o r) (he : e < 2 * T 0 1) : zEm T (setR (setR R 1 e w) 2 e x) o (upd (upd r (o + 3 * e + 1) (jN w)) (o + 3 * e + 2) (jN x)) := by
  intro f hf
  by_cases c : f = e
  · subst c
    refine ⟨?_, ?_, ?_⟩
    · rw [setR_ne (by omega), setR_ne (by omega), upd_ne (by omega), upd_ne (by omega)]; exact (h f hf).1
    · rw [setR_ne (by omega), setR_at, upd_ne (by omega), upd_same]
    · rw [setR_at, upd_same]
  · rw [setR_ne2 c, setR_ne2 c, setR_ne2 c, setR_ne2 c, setR_ne2 c, setR_ne2 c, upd_ne (by omega), upd_ne (by omega), upd_ne (by omega), upd_ne (by omega), upd_ne (by omega), upd_ne (by omega)]
    exact h f hf
theorem blows4 {T R : Nat → Nat → Nat} {z : zkM} {g : Nat} (hT : zTb T) (hS : zEb T R) (hm : zTm T z.1) (sm : zEm T R 6 (z.1 4)) (hg : g ≤ 9) : ∃ q, fMd_blowsAll_4_L3 500 z (jN 6) (jN g) (jN 0) = some q ∧ ∃ r, q = zk_row z 4 r ∧ zEm T (blR T R g (2 * T 0 1)) 6 r ∧ ∀ i, i < 6 → r i = z.1 4 i := by
  have t1 := hT.2.1
  refine zl_loop (fun n (s : zkM × Int32) => fMd_blowsAll_4_L3 n s.1 (jN 6) (jN g) s.2) (fun k s => s.2 = jN k ∧ ∃ r, s.1 = zk_row z 4 r ∧ zEm T (blR T R g k) 6 r ∧ ∀ i, i < 6 → r i = z.1 4 i) (2 * T 0 1) _ ?_ 500 (z, jN 0) ⟨rfl, z.1 4, zk_row_self.symm, by rw [blR_0]; exact sm, fun _ _ => rfl⟩ (by omega)
  rintro n k ⟨m, x3⟩ hk ⟨e1, r, e3, hr, hlow⟩
  dsimp only at e1 e3
  subst e1; subst e3
  dsimp only
  simp only [fMd_blowsAll_4_L3]
  have hP1 : (zk_row z 4 r).1 0 2 = jN (T 0 1) := by rw [zk_row_off (by omega)]; exact hm.2.1
  simp only [hP1]
  by_cases ck : k = 2 * T 0 1
  · left
    refine ⟨zk_row z 4 r, ?_, r, rfl, ck ▸ hr, hlow⟩
    simp (disch := omega) only [zk_let, Option.bind_some, cond_true, cond_false, if_true, if_false, zbF, zbT, within_in, jn9, k0, k1, k2, k3, k4, k5, k6, k7, k8, k9, k10, k12, k16, k17, k20, k29, k30, k31, k32, k36, k40, k41, k42, k48, k57, k59, k60, k64, k98, k99, k100, k112, k128, k200, k255, k256, k378, k420, k999, k1000000, jN_add, jN_mul, jN_clamp, jN_inbT, Bool.false_eq_true, Bool.true_eq_false, jN_le]
    rw [if_pos (by omega)]
  · right
    have hk2 : k < 2 * T 0 1 := by omega
    refine ⟨hk2, ?_⟩
    obtain ⟨r1, r2, r3⟩ := hr k hk2
    rw [blR_at] at r1 r2 r3
    obtain ⟨b1, b2, b3, b4⟩ := hS k hk2
    have hsw : fMd_differ (zk_row z 4 r) (jN k) = some (jN (df T (k / 2))) := differM hT (hm.congr rfl rfl rfl rfl rfl rfl) hk2
    have hd := df_le hT (show k / 2 < T 0 1 by omega)
    simp (disch := omega) only [zk_let, Option.bind_some, cond_true, cond_false, if_true, if_false, zbF, zbT, within_in, jn9, k0, k1, k2, k3, k4, k5, k6, k7, k8, k9, k10, k12, k16, k17, k20, k29, k30, k31, k32, k36, k40, k41, k42, k48, k57, k59, k60, k64, k98, k99, k100, k112, k128, k200, k255, k256, k378, k420, k999, k1000000, jN_add, jN_mul, jN_clamp, jN_inbT, Bool.false_eq_true, Bool.true_eq_false, jN_le, hsw]
    rw [if_neg (by omega)]
    refine ⟨(zk_row z 4 (upd (upd r (6 + 3 * k + 1) (jN (nW T R g k))) (6 + 3 * k + 2) (jN (nO T R g k))), jN (k + 1)), ?_, rfl, _, rfl, by rw [blR_s]; exact hr.set12 hk2, fun i hi => by rw [upd_ne (by omega), upd_ne (by omega)]; exact hlow i hi⟩
    unfold fMd_blows_4
    simp (disch := omega) only [zk_let, Option.bind_some, cond_true, cond_false, if_true, if_false, zbF, zbT, within_in, jn9, k0, k1, k2, k3, k4, k5, k6, k7, k8, k9, k10, k12, k16, k17, k20, k29, k30, k31, k32, k36, k40, k41, k42, k48, k57, k59, k60, k64, k98, k99, k100, k112, k128, k200, k255, k256, k378, k420, k999, k1000000, jN_add, jN_mul, jN_clamp, jN_inbT, Bool.false_eq_true, Bool.true_eq_false, zk_row_on, r1, r2, r3, jN_eq]
    by_cases c1 : R 2 k = 1
    · have n1 : nW T R g k = R 1 k := by simp [nW, c1]
      have n2 : nO T R g k = R 2 k := by simp [nO, c1]
      rw [if_neg (by omega), n1, n2, upd_self r2, upd_self r3]
      simp only [Option.bind_some]
    · have c0 : R 2 k = 0 := by omega
      rw [if_pos c0]
      have hgw := gw_all (R 0 k) (by omega) (df T (k / 2)) (by omega) g (by omega)
      have hgv := gv_all (R 0 k) (by omega)
      have n1 : nW T R g k = R 1 k + gw (R 0 k) (df T (k / 2)) g := by simp [nW, c0]
      have n2 : nO T R g k = if (R 0 k = 0 ∧ 7 ≤ g) ∨ (R 0 k ≠ 0 ∧ zGv (R 0 k) ≤ nW T R g k) then 1 else 0 := by simp [nO, c0]
      have hbound := b4 c0
      by_cases d0 : R 0 k = 0
      · have hz : gw (R 0 k) (df T (k / 2)) g = 0 := hgw.2.2.2 d0
        have hw : nW T R g k = R 1 k := by omega
        rw [if_pos d0, hw, upd_self r2]
        simp (disch := omega) only [jN_le]
        by_cases d7 : g ≤ 6
        · have n3 : nO T R g k = 0 := by rw [n2]; exact if_neg (by omega)
          rw [n3, if_pos d7]
          simp only [zk_u_row, zk_row_row, zk_row_on, Option.bind_some]
        · have n3 : nO T R g k = 1 := by rw [n2]; exact if_pos (by omega)
          rw [n3, if_neg d7]
          simp only [zk_u_row, zk_row_row, zk_row_on, Option.bind_some]
      · rw [if_neg d0]
        have hne : (zk_u (zk_row z 4 r) 4 (6 + 3 * k + 1) (jN (nW T R g k))).1 4 (6 + 3 * k) = jN (R 0 k) := by rw [zk_u_ne (by omega), zk_row_on]; exact r1
        simp (disch := omega) only [zk_let, Option.bind_some, cond_true, cond_false, if_true, if_false, zbF, zbT, within_in, jn9, k0, k1, k2, k3, k4, k5, k6, k7, k8, k9, k10, k12, k16, k17, k20, k29, k30, k31, k32, k36, k40, k41, k42, k48, k57, k59, k60, k64, k98, k99, k100, k112, k128, k200, k255, k256, k378, k420, k999, k1000000, jN_add, jN_mul, jN_clamp, jN_inbT, Bool.false_eq_true, Bool.true_eq_false, hgw.2.1 d0, ← n1, zk_u_at, hne, hgv.1, jN_lt]
        by_cases d9 : nW T R g k < zGv (R 0 k)
        · have n3 : nO T R g k = 0 := by rw [n2]; exact if_neg (by omega)
          rw [n3, if_pos d9]
          simp only [zk_u_row, zk_row_row, zk_row_on, Option.bind_some]
        · have n3 : nO T R g k = 1 := by rw [n2]; exact if_pos (by omega)
          rw [n3, if_neg d9]
          simp only [zk_u_row, zk_row_row, zk_row_on, Option.bind_some]
theorem blows16 {T R : Nat → Nat → Nat} {z : zkM} {g : Nat} (hT : zTb T) (hS : zEb T R) (hm : zTm T z.1) (sm : zEm T R 0 (z.1 16)) (hg : g ≤ 9) : ∃ q, fMd_blowsAll_16_L3 500 z (jN 0) (jN g) (jN 0) = some q ∧ ∃ r, q = zk_row z 16 r ∧ zEm T (blR T R g (2 * T 0 1)) 0 r ∧ ∀ i, i < 0 → r i = z.1 16 i := by
  have t1 := hT.2.1
  refine zl_loop (fun n (s : zkM × Int32) => fMd_blowsAll_16_L3 n s.1 (jN 0) (jN g) s.2) (fun k s => s.2 = jN k ∧ ∃ r, s.1 = zk_row z 16 r ∧ zEm T (blR T R g k) 0 r ∧ ∀ i, i < 0 → r i = z.1 16 i) (2 * T 0 1) _ ?_ 500 (z, jN 0) ⟨rfl, z.1 16, zk_row_self.symm, by rw [blR_0]; exact sm, fun _ _ => rfl⟩ (by omega)
  rintro n k ⟨m, x3⟩ hk ⟨e1, r, e3, hr, hlow⟩
  dsimp only at e1 e3
  subst e1; subst e3
  dsimp only
  simp only [fMd_blowsAll_16_L3]
  have hP1 : (zk_row z 16 r).1 0 2 = jN (T 0 1) := by rw [zk_row_off (by omega)]; exact hm.2.1
  simp only [hP1]
  by_cases ck : k = 2 * T 0 1
  · left
    refine ⟨zk_row z 16 r, ?_, r, rfl, ck ▸ hr, hlow⟩
    simp (disch := omega) only [zk_let, Option.bind_some, cond_true, cond_false, if_true, if_false, zbF, zbT, within_in, jn9, k0, k1, k2, k3, k4, k5, k6, k7, k8, k9, k10, k12, k16, k17, k20, k29, k30, k31, k32, k36, k40, k41, k42, k48, k57, k59, k60, k64, k98, k99, k100, k112, k128, k200, k255, k256, k378, k420, k999, k1000000, jN_add, jN_mul, jN_clamp, jN_inbT, Bool.false_eq_true, Bool.true_eq_false, jN_le]
    rw [if_pos (by omega)]
  · right
    have hk2 : k < 2 * T 0 1 := by omega
    refine ⟨hk2, ?_⟩
    obtain ⟨r1, r2, r3⟩ := hr k hk2
    rw [blR_at] at r1 r2 r3
    obtain ⟨b1, b2, b3, b4⟩ := hS k hk2
    have hsw : fMd_differ (zk_row z 16 r) (jN k) = some (jN (df T (k / 2))) := differM hT (hm.congr rfl rfl rfl rfl rfl rfl) hk2
    have hd := df_le hT (show k / 2 < T 0 1 by omega)
    simp (disch := omega) only [zk_let, Option.bind_some, cond_true, cond_false, if_true, if_false, zbF, zbT, within_in, jn9, k0, k1, k2, k3, k4, k5, k6, k7, k8, k9, k10, k12, k16, k17, k20, k29, k30, k31, k32, k36, k40, k41, k42, k48, k57, k59, k60, k64, k98, k99, k100, k112, k128, k200, k255, k256, k378, k420, k999, k1000000, jN_add, jN_mul, jN_clamp, jN_inbT, Bool.false_eq_true, Bool.true_eq_false, jN_le, hsw]
    rw [if_neg (by omega)]
    refine ⟨(zk_row z 16 (upd (upd r (0 + 3 * k + 1) (jN (nW T R g k))) (0 + 3 * k + 2) (jN (nO T R g k))), jN (k + 1)), ?_, rfl, _, rfl, by rw [blR_s]; exact hr.set12 hk2, fun i hi => by rw [upd_ne (by omega), upd_ne (by omega)]; exact hlow i hi⟩
    unfold fMd_blows_16
    simp (disch := omega) only [zk_let, Option.bind_some, cond_true, cond_false, if_true, if_false, zbF, zbT, within_in, jn9, k0, k1, k2, k3, k4, k5, k6, k7, k8, k9, k10, k12, k16, k17, k20, k29, k30, k31, k32, k36, k40, k41, k42, k48, k57, k59, k60, k64, k98, k99, k100, k112, k128, k200, k255, k256, k378, k420, k999, k1000000, jN_add, jN_mul, jN_clamp, jN_inbT, Bool.false_eq_true, Bool.true_eq_false, zk_row_on, r1, r2, r3, jN_eq]
    by_cases c1 : R 2 k = 1
    · have n1 : nW T R g k = R 1 k := by simp [nW, c1]
      have n2 : nO T R g k = R 2 k := by simp [nO, c1]
      rw [if_neg (by omega), n1, n2, upd_self r2, upd_self r3]
      simp only [Option.bind_some]
    · have c0 : R 2 k = 0 := by omega
      rw [if_pos c0]
      have hgw := gw_all (R 0 k) (by omega) (df T (k / 2)) (by omega) g (by omega)
      have hgv := gv_all (R 0 k) (by omega)
      have n1 : nW T R g k = R 1 k + gw (R 0 k) (df T (k / 2)) g := by simp [nW, c0]
      have n2 : nO T R g k = if (R 0 k = 0 ∧ 7 ≤ g) ∨ (R 0 k ≠ 0 ∧ zGv (R 0 k) ≤ nW T R g k) then 1 else 0 := by simp [nO, c0]
      have hbound := b4 c0
      by_cases d0 : R 0 k = 0
      · have hz : gw (R 0 k) (df T (k / 2)) g = 0 := hgw.2.2.2 d0
        have hw : nW T R g k = R 1 k := by omega
        rw [if_pos d0, hw, upd_self r2]
        simp (disch := omega) only [jN_le]
        by_cases d7 : g ≤ 6
        · have n3 : nO T R g k = 0 := by rw [n2]; exact if_neg (by omega)
          rw [n3, if_pos d7]
          simp only [zk_u_row, zk_row_row, zk_row_on, Option.bind_some]
        · have n3 : nO T R g k = 1 := by rw [n2]; exact if_pos (by omega)
          rw [n3, if_neg d7]
          simp only [zk_u_row, zk_row_row, zk_row_on, Option.bind_some]
      · rw [if_neg d0]
        have hne : (zk_u (zk_row z 16 r) 16 (0 + 3 * k + 1) (jN (nW T R g k))).1 16 (0 + 3 * k) = jN (R 0 k) := by rw [zk_u_ne (by omega), zk_row_on]; exact r1
        simp (disch := omega) only [zk_let, Option.bind_some, cond_true, cond_false, if_true, if_false, zbF, zbT, within_in, jn9, k0, k1, k2, k3, k4, k5, k6, k7, k8, k9, k10, k12, k16, k17, k20, k29, k30, k31, k32, k36, k40, k41, k42, k48, k57, k59, k60, k64, k98, k99, k100, k112, k128, k200, k255, k256, k378, k420, k999, k1000000, jN_add, jN_mul, jN_clamp, jN_inbT, Bool.false_eq_true, Bool.true_eq_false, hgw.2.1 d0, ← n1, zk_u_at, hne, hgv.1, jN_lt]
        by_cases d9 : nW T R g k < zGv (R 0 k)
        · have n3 : nO T R g k = 0 := by rw [n2]; exact if_neg (by omega)
          rw [n3, if_pos d9]
          simp only [zk_u_row, zk_row_row, zk_row_on, Option.bind_some]
        · have n3 : nO T R g k = 1 := by rw [n2]; exact if_pos (by omega)
          rw [n3, if_neg d9]
          simp only [zk_u_row, zk_row_row, zk_row_on, Option.bind_some]
