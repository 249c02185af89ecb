def zEm (T R : Nat → Nat → Nat) (o : Nat) (t : Nat → Int32) : Prop := ∀ e, e < 2 * T 0 1 → t (o + 3 * e) = jN (R 0 e) ∧ t (o + 3 * e + 1) = jN (R 1 e) ∧ t (o + 3 * e + 2) = jN (R 2 e)
theorem zEm.set12 {T R : Nat → Nat → Nat} {r : Nat → Int32} {o e w x : Nat} (h : zEm T R o r) (he : e < 2 * T 0 1) : zEm T (setR (setR R 1 e w) 2 e x) o (upd (upd r (o + 3 * e + 1) (jN w)) (o + 3 * e + 2) (jN x)) := by
  intro f hf
  by_cases c : f = e
  · subst c
    refine ⟨?_, ?_, ?_⟩
    · rw [setR_ne (by omega), setR_ne (by omega), upd_ne (by omega), upd_ne (by omega)]; exact (h f hf).1
    · rw [setR_ne (by omega), setR_at, upd_ne (by omega), upd_same]
    · rw [setR_at, upd_same]
  · rw [setR_ne2 c, setR_ne2 c, setR_ne2 c, setR_ne2 c, setR_ne2 c, setR_ne2 c, upd_ne (by omega), upd_ne (by omega), upd_ne (by omega), upd_ne (by omega), upd_ne (by omega), upd_ne (by omega)]
    exact h f hf
theorem blows4 {T R : Nat → Nat → Nat} {z : zkM} {g : Nat} (hT : zTb T) (hS : zEb T R) (hm : zTm T z.1) (sm : zEm T R 6 (z.1 4)) (hg : g ≤ 9) : ∃ q, fMd_blowsAll_4_L3 500 z (jN 6) (jN g) (jN 0) = some q ∧ ∃ r, q = zk_row z 4 r ∧ zEm T (blR T R g (2 * T 0 1)) 6 r ∧ ∀ i, i < 6 → r i = z.1 4 i := by
  have t1 := hT.2.1
  refine zl_loop (fun n (s : zkM × Int32) => fMd_blowsAll_4_L3 n s.1 (jN 6) (jN g) s.2) (fun k s => s.2 = jN k ∧ ∃ r, s.1 = zk_row z 4 r ∧ zEm T (blR T R g k) 6 r ∧ ∀ i, i < 6 → r i = z.1 4 i) (2 * T 0 1) _ ?_ 500 (z, jN 0) ⟨rfl, z.1 4, zk_row_self.symm, by rw [blR_0]; exact sm, fun _ _ => rfl⟩ (by omega)
  rintro n k ⟨m, x3⟩ hk ⟨e1, r, e3, hr, hlow⟩
  dsimp only at e1 e3
  subst e1; subst e3
  dsimp only
  simp only [fMd_blowsAll_4_L3]
  have hP1 : (zk_row z 4 r).1 0 2 = jN (T 0 1) := by rw [zk_row_off (by omega)]; exact hm.2.1
  simp only [hP1]
  by_cases ck : k = 2 * T 0 1
  · left
    refine ⟨zk_row z 4 r, ?_, r, rfl, ck ▸ hr, hlow⟩
    simp (disch := omega) only [zk_let, Option.bind_some, cond_true, cond_false, if_true, if_false, zbF, zbT, within_in, jn9, k0, k1, k2, k3, k4, k5, k6, k7, k8, k9, k10, k12, k16, k17, k20, k29, k30, k31, k32, k36, k40, k41, k42, k48, k57, k59, k60, k64, k98, k99, k100, k112, k128, k200, k255, k256, k378, k420, k999, k1000000, jN_add, jN_mul, jN_clamp, jN_inbT, Bool.false_eq_true, Bool.true_eq_false, jN_le]
    rw [if_pos (by omega)]
  · right
    have hk2 : k < 2 * T 0 1 := by omega
    refine ⟨hk2, ?_⟩
    obtain ⟨r1, r2, r3⟩ := hr k hk2
    rw [blR_at] at r1 r2 r3
    obtain ⟨b1, b2, b3, b4⟩ := hS k hk2
    have hsw : fMd_differ (zk_row z 4 r) (jN k) = some (jN (df T (k / 2))) := differM hT (hm.congr rfl rfl rfl rfl rfl rfl) hk2
    have hd := df_le hT (show k / 2 < T 0 1 by omega)
    simp (disch := omega) only [zk_let, Option.bind_some, cond_true, cond_false, if_true, if_false, zbF, zbT, within_in, jn9, k0, k1, k2, k3, k4, k5, k6, k7, k8, k9, k10, k12, k16, k17, k20, k29, k30, k31, k32, k36, k40, k41, k42, k48, k57, k59, k60, k64, k98, k99, k100, k112, k128, k200, k255, k256, k378, k420, k999, k1000000, jN_add, jN_mul, jN_clamp, jN_inbT, Bool.false_eq_true, Bool.true_eq_false, jN_le, hsw]
    rw [if_neg (by omega)]
    refine ⟨(zk_row z 4 (upd (upd r (6 + 3 * k + 1) (jN (nW T R g k))) (6 + 3 * k + 2) (jN (nO T R g k))), jN (k + 1)), ?_, rfl, _, rfl, by rw [blR_s]; exact hr.set12 hk2, fun i hi => by rw [upd_ne (by omega), upd_ne (by omega)]; exact hlow i hi⟩
    unfold fMd_blows_4
    simp (disch := omega) only [zk_let, Option.bind_some, cond_true, cond_false, if_true, if_false, zbF, zbT, within_in, jn9, k0, k1, k2, k3, k4, k5, k6, k7, k8, k9, k10, k12, k16, k17, k20, k29, k30, k31, k32, k36, k40, k41, k42, k48, k57, k59, k60, k64, k98, k99, k100, k112, k128, k200, k255, k256, k378, k420, k999, k1000000, jN_add, jN_mul, jN_clamp, jN_inbT, Bool.false_eq_true, Bool.true_eq_false, zk_row_on, r1, r2, r3, jN_eq]
    by_cases c1 : R 2 k = 1
    · have n1 : nW T R g k = R 1 k := by simp [nW, c1]
      have n2 : nO T R g k = R 2 k := by simp [nO, c1]
      rw [if_neg (by omega), n1, n2, upd_self r2, upd_self r3]
      simp only [Option.bind_some]
    · have c0 : R 2 k = 0 := by omega
      rw [if_pos c0]
      have hgw := gw_all (R 0 k) (by omega) (df T (k / 2)) (by omega) g (by omega)
      have hgv := gv_all (R 0 k) (by omega)
      have n1 : nW T R g k = R 1 k + gw (R 0 k) (df T (k / 2)) g := by simp [nW, c0]
      have n2 : nO T R g k = if (R 0 k = 0 ∧ 7 ≤ g) ∨ (R 0 k ≠ 0 ∧ zGv (R 0 k) ≤ nW T R g k) then 1 else 0 := by simp [nO, c0]
      have hbound := b4 c0
      by_cases d0 : R 0 k = 0
      · have hz : gw (R 0 k) (df T (k / 2)) g = 0 := hgw.2.2.2 d0
        have hw : nW T R g k = R 1 k := by omega
        rw [if_pos d0, hw, upd_self r2]
        simp (disch := omega) only [jN_le]
        by_cases d7 : g ≤ 6
        · have n3 : nO T R g k = 0 := by rw [n2]; exact if_neg (by omega)
          rw [n3, if_pos d7]
          simp only [zk_u_row, zk_row_row, zk_row_on, Option.bind_some]
        · have n3 : nO T R g k = 1 := by rw [n2]; exact if_pos (by omega)
          rw [n3, if_neg d7]
          simp only [zk_u_row, zk_row_row, zk_row_on, Option.bind_some]
      · rw [if_neg d0]
        have hne : (zk_u (zk_row z 4 r) 4 (6 + 3 * k + 1) (jN (nW T R g k))).1 4 (6 + 3 * k) = jN (R 0 k) := by rw [zk_u_ne (by omega), zk_row_on]; exact r1
        simp (disch := omega) only [zk_let, Option.bind_some, cond_true, cond_false, if_true, if_false, zbF, zbT, within_in, jn9, k0, k1, k2, k3, k4, k5, k6, k7, k8, k9, k10, k12, k16, k17, k20, k29, k30, k31, k32, k36, k40, k41, k42, k48, k57, k59, k60, k64, k98, k99, k100, k112, k128, k200, k255, k256, k378, k420, k999, k1000000, jN_add, jN_mul, jN_clamp, jN_inbT, Bool.false_eq_true, Bool.true_eq_false, hgw.2.1 d0, ← n1, zk_u_at, hne, hgv.1, jN_lt]
        by_cases d9 : nW T R g k < zGv (R 0 k)
        · have n3 : nO T R g k = 0 := by rw [n2]; exact if_neg (by omega)
          rw [n3, if_pos d9]
          simp only [zk_u_row, zk_row_row, zk_row_on, Option.bind_some]
        · have n3 : nO T R g k = 1 := by rw [n2]; exact if_pos (by omega)
          rw [n3, if_neg d9]
          simp only [zk_u_row, zk_row_row, zk_row_on, Option.bind_some]
theorem blows16 {T R : Nat → Nat → Nat} {z : zkM} {g : Nat} (hT : zTb T) (hS : zEb T R) (hm : zTm T z.1) (sm : zEm T R 0 (z.1 16)) (hg : g ≤ 9) : ∃ q, fMd_blowsAll_16_L3 500 z (jN 0) (jN g) (jN 0) = some q ∧ ∃ r, q = zk_row z 16 r ∧ zEm T (blR T R g (2 * T 0 1)) 0 r ∧ ∀ i, i < 0 → r i = z.1 16 i := by
  have t1 := hT.2.1
  refine zl_loop (fun n (s : zkM × Int32) => fMd_blowsAll_16_L3 n s.1 (jN 0) (jN g) s.2) (fun k s => s.2 = jN k ∧ ∃ r, s.1 = zk_row z 16 r ∧ zEm T (blR T R g k) 0 r ∧ ∀ i, i < 0 → r i = z.1 16 i) (2 * T 0 1) _ ?_ 500 (z, jN 0) ⟨rfl, z.1 16, zk_row_self.symm, by rw [blR_0]; exact sm, fun _ _ => rfl⟩ (by omega)
  rintro n k ⟨m, x3⟩ hk ⟨e1, r, e3, hr, hlow⟩
  dsimp only at e1 e3
  subst e1; subst e3
  dsimp only
  simp only [fMd_blowsAll_16_L3]
  have hP1 : (zk_row z 16 r).1 0 2 = jN (T 0 1) := by rw [zk_row_off (by omega)]; exact hm.2.1
  simp only [hP1]
  by_cases ck : k = 2 * T 0 1
  · left
    refine ⟨zk_row z 16 r, ?_, r, rfl, ck ▸ hr, hlow⟩
    simp (disch := omega) only [zk_let, Option.bind_some, cond_true, cond_false, if_true, if_false, zbF, zbT, within_in, jn9, k0, k1, k2, k3, k4, k5, k6, k7, k8, k9, k10, k12, k16, k17, k20, k29, k30, k31, k32, k36, k40, k41, k42, k48, k57, k59, k60, k64, k98, k99, k100, k112, k128, k200, k255, k256, k378, k420, k999, k1000000, jN_add, jN_mul, jN_clamp, jN_inbT, Bool.false_eq_true, Bool.true_eq_false, jN_le]
    rw [if_pos (by omega)]
  · right
    have hk2 : k < 2 * T 0 1 := by omega
    refine ⟨hk2, ?_⟩
    obtain ⟨r1, r2, r3⟩ := hr k hk2
    rw [blR_at] at r1 r2 r3
    obtain ⟨b1, b2, b3, b4⟩ := hS k hk2
    have hsw : fMd_differ (zk_row z 16 r) (jN k) = some (jN (df T (k / 2))) := differM hT (hm.congr rfl rfl rfl rfl rfl rfl) hk2
    have hd := df_le hT (show k / 2 < T 0 1 by omega)
    simp (disch := omega) only [zk_let, Option.bind_some, cond_true, cond_false, if_true, if_false, zbF, zbT, within_in, jn9, k0, k1, k2, k3, k4, k5, k6, k7, k8, k9, k10, k12, k16, k17, k20, k29, k30, k31, k32, k36, k40, k41, k42, k48, k57, k59, k60, k64, k98, k99, k100, k112, k128, k200, k255, k256, k378, k420, k999, k1000000, jN_add, jN_mul, jN_clamp, jN_inbT, Bool.false_eq_true, Bool.true_eq_false, jN_le, hsw]
    rw [if_neg (by omega)]
    refine ⟨(zk_row z 16 (upd (upd r (0 + 3 * k + 1) (jN (nW T R g k))) (0 + 3 * k + 2) (jN (nO T R g k))), jN (k + 1)), ?_, rfl, _, rfl, by rw [blR_s]; exact hr.set12 hk2, fun i hi => by rw [upd_ne (by omega), upd_ne (by omega)]; exact hlow i hi⟩
    unfold fMd_blows_16
    simp (disch := omega) only [zk_let, Option.bind_some, cond_true, cond_false, if_true, if_false, zbF, zbT, within_in, jn9, k0, k1, k2, k3, k4, k5, k6, k7, k8, k9, k10, k12, k16, k17, k20, k29, k30, k31, k32, k36, k40, k41, k42, k48, k57, k59, k60, k64, k98, k99, k100, k112, k128, k200, k255, k256, k378, k420, k999, k1000000, jN_add, jN_mul, jN_clamp, jN_inbT, Bool.false_eq_true, Bool.true_eq_false, zk_row_on, r1, r2, r3, jN_eq]
    by_cases c1 : R 2 k = 1
    · have n1 : nW T R g k = R 1 k := by simp [nW, c1]
      have n2 : nO T R g k = R 2 k := by simp [nO, c1]
      rw [if_neg (by omega), n1, n2, upd_self r2, upd_self r3]
      simp only [Option.bind_some]
    · have c0 : R 2 k = 0 := by omega
      rw [if_pos c0]
      have hgw := gw_all (R 0 k) (by omega) (df T (k / 2)) (by omega) g (by omega)
      have hgv := gv_all (R 0 k) (by omega)
      have n1 : nW T R g k = R 1 k + gw (R 0 k) (df T (k / 2)) g := by simp [nW, c0]
      have n2 : nO T R g k = if (R 0 k = 0 ∧ 7 ≤ g) ∨ (R 0 k ≠ 0 ∧ zGv (R 0 k) ≤ nW T R g k) then 1 else 0 := by simp [nO, c0]
      have hbound := b4 c0
      by_cases d0 : R 0 k = 0
      · have hz : gw (R 0 k) (df T (k / 2)) g = 0 := hgw.2.2.2 d0
        have hw : nW T R g k = R 1 k := by omega
        rw [if_pos d0, hw, upd_self r2]
        simp (disch := omega) only [jN_le]
        by_cases d7 : g ≤ 6
        · have n3 : nO T R g k = 0 := by rw [n2]; exact if_neg (by omega)
          rw [n3, if_pos d7]
          simp only [zk_u_row, zk_row_row, zk_row_on, Option.bind_some]
        · have n3 : nO T R g k = 1 := by rw [n2]; exact if_pos (by omega)
          rw [n3, if_neg d7]
          simp only [zk_u_row, zk_row_row, zk_row_on, Option.bind_some]
      · rw [if_neg d0]
        have hne : (zk_u (zk_row z 16 r) 16 (0 + 3 * k + 1) (jN (nW T R g k))).1 16 (0 + 3 * k) = jN (R 0 k) := by rw [zk_u_ne (by omega), zk_row_on]; exact r1
        simp (disch := omega) only [zk_let, Option.bind_some, cond_true, cond_false, if_true, if_false, zbF, zbT, within_in, jn9, k0, k1, k2, k3, k4, k5, k6, k7, k8, k9, k10, k12, k16, k17, k20, k29, k30, k31, k32, k36, k40, k41, k42, k48, k57, k59, k60, k64, k98, k99, k100, k112, k128, k200, k255, k256, k378, k420, k999, k1000000, jN_add, jN_mul, jN_clamp, jN_inbT, Bool.false_eq_true, Bool.true_eq_false, hgw.2.1 d0, ← n1, zk_u_at, hne, hgv.1, jN_lt]
        by_cases d9 : nW T R g k < zGv (R 0 k)
        · have n3 : nO T R g k = 0 := by rw [n2]; exact if_neg (by omega)
          rw [n3, if_pos d9]
          simp only [zk_u_row, zk_row_row, zk_row_on, Option.bind_some]
        · have n3 : nO T R g k = 1 := by rw [n2]; exact if_pos (by omega)
          rw [n3, if_neg d9]
          simp only [zk_u_row, zk_row_row, zk_row_on, Option.bind_some]
/-- behind a GALE -/
def blS (T R : Nat → Nat → Nat) (g : Nat) : Nat → Nat → Nat := setR (blR T R g (2 * T 0 1)) 4 0 (R 4 0 + 1)
theorem blR_4 {T R : Nat → Nat → Nat} {g K b : Nat} : blR T R g K 4 b = R 4 b := by unfold blR; simp
theorem blR_3 {T R : Nat → Nat → Nat} {g K b : Nat} : blR T R g K 3 b = R 3 b := by unfold blR; simp
theorem blS_e {T R : Nat → Nat → Nat} {g a e : Nat} (ha : a ≠ 4) : blS T R g a e = blR T R g (2 * T 0 1) a e := setR_ne ha
theorem zEb.blS {T R : Nat → Nat → Nat} {g : Nat} (hT : zTb T) (h : zEb T R) (hg : g ≤ 9) : zEb T (blS T R g) := by
  intro e he
  rw [blS_e (by omega), blS_e (by omega), blS_e (by omega)]
  have h0 : blR T R g (2 * T 0 1) 0 e = R 0 e := by unfold blR; simp
  have h1 : blR T R g (2 * T 0 1) 1 e = nW T R g e := by unfold blR; simp [he]
  have h2 : blR T R g (2 * T 0 1) 2 e = nO T R g e := by unfold blR; simp [he]
  rw [h0, h1, h2]
  obtain ⟨b1, b2, b3, b4⟩ := h e he
  have hd := df_le hT (show e / 2 < T 0 1 by omega)
  have hgw := gw_all (R 0 e) (by omega) (df T (e / 2)) (by omega) g (by omega)
  have hgv := (gv_all (R 0 e) (by omega)).2.2
  by_cases c0 : R 2 e = 0
  · have n1 : nW T R g e = R 1 e + gw (R 0 e) (df T (e / 2)) g := by simp [nW, c0]
    have n2 : nO T R g e = if (R 0 e = 0 ∧ 7 ≤ g) ∨ (R 0 e ≠ 0 ∧ zGv (R 0 e) ≤ nW T R g e) then 1 else 0 := by simp [nO, c0]
    have := b4 c0
    refine ⟨b1, by omega, by rw [n2]; split <;> omega, fun hn => ?_⟩
    rw [n2] at hn
    by_cases cc : (R 0 e = 0 ∧ 7 ≤ g) ∨ (R 0 e ≠ 0 ∧ zGv (R 0 e) ≤ nW T R g e)
    · rw [if_pos cc] at hn; omega
    · by_cases d0 : R 0 e = 0
      · have := hgw.2.2.2 d0; omega
      · omega
  · have n1 : nW T R g e = R 1 e := by simp [nW, c0]
    have n2 : nO T R g e = R 2 e := by simp [nO, c0]
    rw [n1, n2]; exact ⟨b1, b2, b3, b4⟩
theorem blow_spec {T R : Nat → Nat → Nat} {y : zkM} {g : Nat} (hT : zTb T) (hS : zEb T R) (hx : zTx T y.1) (sx : zSx T R (y.1 5)) (hg : g ≤ 9) : ∃ r, fScene_blow y (jN g) = some (zk_row y 5 r) ∧ zSx T (blS T R g) r := by
  obtain ⟨q, e1, r, e2, hr⟩ := blow_L hT hS hx sx hg
  subst e2
  have t1 := hT.2.1
  have t2 := hT.2.2.1
  refine ⟨upd r 41 (r 41 + jN 1), ?_, ?_⟩
  · unfold fScene_blow
    rw [k0, e1]
    simp (disch := omega) only [zk_let, Option.bind_some, cond_true, cond_false, if_true, if_false, zbF, zbT, within_in, jn9, k0, k1, k2, k3, k4, k5, k6, k7, k8, k9, k10, k12, k16, k17, k20, k29, k30, k31, k32, k36, k40, k41, k42, k48, k57, k59, k60, k64, k98, k99, k100, k112, k128, k200, k255, k256, k378, k420, k999, k1000000, jN_add, jN_mul, jN_clamp, jN_inbT, Bool.false_eq_true, Bool.true_eq_false, zk_row_on, zk_u_row, zk_row_row]
  · refine ⟨?_, fun c hc => ?_, fun e he => ?_⟩
    · unfold blS; rw [setR_at, upd_same, hr.1, blR_4, jN_add]
    · rw [blS_e (by omega), upd_ne (by omega)]; exact hr.2.1 c hc
    · rw [blS_e (by omega), blS_e (by omega), blS_e (by omega), upd_ne (by omega), upd_ne (by omega), upd_ne (by omega)]; exact hr.2.2 e he
theorem blowL_spec {T R : Nat → Nat → Nat} {y : zkM} {g : Nat} (hT : zTb T) (hS : zEb T R) (hx : zTx T y.1) (sx : zSx T R (y.1 40)) (hg : g ≤ 9) : ∃ r, fScene_blowL y (jN g) = some (zk_row y 40 r) ∧ zSx T (blS T R g) r := by
  obtain ⟨q, e1, r, e2, hr⟩ := blowL_L hT hS hx sx hg
  subst e2
  have t1 := hT.2.1
  have t2 := hT.2.2.1
  refine ⟨upd r 41 (r 41 + jN 1), ?_, ?_⟩
  · unfold fScene_blowL
    rw [k0, e1]
    simp (disch := omega) only [zk_let, Option.bind_some, cond_true, cond_false, if_true, if_false, zbF, zbT, within_in, jn9, k0, k1, k2, k3, k4, k5, k6, k7, k8, k9, k10, k12, k16, k17, k20, k29, k30, k31, k32, k36, k40, k41, k42, k48, k57, k59, k60, k64, k98, k99, k100, k112, k128, k200, k255, k256, k378, k420, k999, k1000000, jN_add, jN_mul, jN_clamp, jN_inbT, Bool.false_eq_true, Bool.true_eq_false, zk_row_on, zk_u_row, zk_row_row]
  · refine ⟨?_, fun c hc => ?_, fun e he => ?_⟩
    · unfold blS; rw [setR_at, upd_same, hr.1, blR_4, jN_add]
    · rw [blS_e (by omega), upd_ne (by omega)]; exact hr.2.1 c hc
    · rw [blS_e (by omega), blS_e (by omega), blS_e (by omega), upd_ne (by omega), upd_ne (by omega), upd_ne (by omega)]; exact hr.2.2 e he
theorem pr_gale {y z : zkM} (h : zRel y z) (a1 : Int32) : ∃ v y' z', sX_gale y a1 v y' ∧ sM_gale z a1 v z' ∧ zRel y' z' := by
  obtain ⟨T, R, hA⟩ := h.all
  obtain ⟨h1, h2, h3, h4, h5, h6, -⟩ := id hA
  have t1 := h1.2.1
  have t2 := h1.2.2.1
  unfold sX_gale sM_gale fTp_gale fMd_gale fTp_isForce fMd_isForce fScene_gales
  simp only [within_in, zbF, k0, k1, k2, k3, k4, k5, k6, k7, k8, k9, k10, k12, k16, k17, k20, k29, k30, k31, k32, k36, k40, k41, k42, k48, k57, k59, k60, k64, k98, k99, k100, k112, k128, k200, k255, k256, k378, k420, k999, k1000000]
  rcases in_fr a1 (lo := 1) (hi := 9) (by omega) (by omega) with ⟨hw, g, -, hg, rfl⟩ | ⟨hw, -⟩
  · simp only [hw, Bool.true_eq_false, if_false]
    have hb := h4.1
    simp (disch := omega) only [jN_clamp, h5.1, h6.1, jN_lt, jN_eq]
    by_cases c : R 4 0 = 999
    · rw [c]
      exact ⟨-jN 2, y, z, by simp, by simp, h⟩
    · rw [if_pos (by omega), if_neg c]
      obtain ⟨y1, z1, r1, r2, hA1⟩ := hA.rem
      obtain ⟨-, h2', h3', -, h5', h6', -⟩ := id hA1
      have hE : zEb T R := h4.2
      obtain ⟨r, e1, hr⟩ := blow_spec h1 hE h2' h5' hg
      have hem : zEm T R 6 (z1.1 4) := by
        intro e he
        obtain ⟨g1, g2, g3⟩ := h6'.2.2 e he
        exact ⟨g1, by rw [show 6 + 3 * e + 1 = 7 + 3 * e by omega]; exact g2, by rw [show 6 + 3 * e + 2 = 8 + 3 * e by omega]; exact g3⟩
      obtain ⟨q, e2, t, e3, ht, hlow⟩ := blows4 h1 hE h3' hem hg
      subst e3
      have hb2 := hE.blS h1 hg
      have hSb : zSb T (blS T R g) := ⟨by unfold blS; rw [setR_at]; omega, hb2⟩
      have hsm : zSm T (blS T R g) (upd t 0 (t 0 + jN 1)) := by
        refine ⟨?_, fun c hc => ?_, fun e he => ?_⟩
        · unfold blS; rw [setR_at, upd_same, hlow 0 (by omega), h6'.1, jN_add]
        · rw [blS_e (by omega), blR_3, upd_ne (by omega), hlow _ (by omega)]; exact h6'.2.1 c hc
        · rw [blS_e (by omega), blS_e (by omega), blS_e (by omega), upd_ne (by omega), upd_ne (by omega), upd_ne (by omega)]
          obtain ⟨g1, g2, g3⟩ := ht e he
          exact ⟨g1, by rw [show 7 + 3 * e = 6 + 3 * e + 1 by omega]; exact g2, by rw [show 8 + 3 * e = 6 + 3 * e + 2 by omega]; exact g3⟩
      have hA2 := hA1.scene hSb hr hsm
      refine ⟨jN (cnt (oB (blS T R g)) (2 * T 0 1)), _, _, ?_, ?_, hA2.rel⟩
      · simp only [r1, Option.bind_some, e1, hA2.outsX]
      · unfold fMd_blowsAll_4
        rw [k0]
        simp (disch := omega) only [r2, Option.bind_some, e2, zk_let, jN_clamp, zk_u_row, zk_row_row, zk_row_on, hA2.outsM]
  · exact ⟨-jN 1, y, z, by simp [hw], by simp [hw], h⟩
