/-! A GALE -/
def df (T : Nat → Nat → Nat) (p : Nat) : Nat := (T 3 (T 4 p) - T 3 (T 5 p)) + (T 3 (T 5 p) - T 3 (T 4 p))
def gw (k d g : Nat) : Nat := if k = 1 then d * g else if k = 2 then d * g / 2 else if k = 3 then d * g / 3 else 0
theorem gw_x : ∀ k, k < 4 → ∀ d, d < 4 → ∀ g, g < 10 → fTp_growth (jN k) (jN d) (jN g) = jN (gw k d g) := by decide +kernel
theorem gw_m : ∀ k, k < 3 → ∀ d, d < 4 → ∀ g, g < 10 → fMd_wears (jN (k + 1)) (jN d) (jN g) = jN (gw (k + 1) d g) := by decide +kernel
theorem gw_b : ∀ k, k < 4 → ∀ d, d < 4 → ∀ g, g < 10 → gw k d g ≤ 27 := by decide +kernel
theorem gw_all (k : Nat) (hk : k < 4) (d : Nat) (hd : d < 4) (g : Nat) (hg : g < 10) : fTp_growth (jN k) (jN d) (jN g) = jN (gw k d g) ∧ (k ≠ 0 → fMd_wears (jN k) (jN d) (jN g) = jN (gw k d g)) ∧ gw k d g ≤ 27 ∧ (k = 0 → gw k d g = 0) := by
  refine ⟨gw_x k hk d hd g hg, fun h => ?_, gw_b k hk d hd g hg, fun h => by simp [gw, h]⟩
  have := gw_m (k - 1) (by omega) d hd g hg
  rw [show k - 1 + 1 = k by omega] at this
  exact this
theorem gv_all : ∀ k, k < 4 → fMd_givesAt (jN k) = jN (zGv k) ∧ fTp_givesAt (jN k) = jN (if k = 0 then 1000000 else zGv k) ∧ zGv k ≤ 36 := by decide +kernel
theorem abs_all : ∀ a, a < 4 → ∀ b, b < 4 → zk_abs (jN a - jN b) = jN (a - b + (b - a)) ∧ (if jN 0 ≤ jN a - jN b then some (jN a - jN b) else some (-(jN a - jN b))) = some (jN (a - b + (b - a))) := by decide +kernel
theorem df_le {T : Nat → Nat → Nat} {p : Nat} (hT : zTb T) (hp : p < T 0 1) : df T p ≤ 3 := by
  obtain ⟨t1, t2, t3, t4, t5, t6⟩ := hT
  have h1 := t5 p hp
  have h2 := t4 _ h1.1
  have h3 := t4 _ h1.2.1
  unfold df; omega
theorem swayX {T : Nat → Nat → Nat} {y : zkM} {p : Nat} (hT : zTb T) (hx : zTx T y.1) (hp : p < T 0 1) : fTree_swayAcross y (jN p) = some (jN (df T p)) := by
  obtain ⟨t1, t2, t3, t4, t5, t6⟩ := hT
  have h1 := t5 p hp
  have h2 := t4 _ h1.1
  have h3 := t4 _ h1.2.1
  unfold fTree_swayAcross
  simp (disch := omega) only [zk_let, Option.bind_some, cond_true, cond_false, if_true, if_false, zbF, zbT, within_in, jn9, k0, k1, k2, k3, k4, k5, k6, k7, k8, k9, k10, k12, k16, k17, k20, k29, k30, k31, k32, k36, k40, k41, k42, k48, k57, k59, k60, k64, k98, k99, k100, k112, k128, k200, k255, k256, k378, k420, k999, k1000000, jN_add, jN_mul, jN_clamp, jN_inbT, Bool.false_eq_true, Bool.true_eq_false, (hx.2.2.2.2.1 p hp).1, (hx.2.2.2.2.1 p hp).2.1, (hx.2.2.2.1 _ h1.1).2.2, (hx.2.2.2.1 _ h1.2.1).2.2]
  rw [(abs_all _ (by omega) _ (by omega)).1]; rfl
theorem differM {T : Nat → Nat → Nat} {z : zkM} {e : Nat} (hT : zTb T) (hm : zTm T z.1) (he : e < 2 * T 0 1) : fMd_differ z (jN e) = some (jN (df T (e / 2))) := by
  obtain ⟨t1, t2, t3, t4, t5, t6⟩ := hT
  have hp : e / 2 < T 0 1 := by omega
  have h1 := t5 _ hp
  have h2 := t4 _ h1.1
  have h3 := t4 _ h1.2.1
  unfold fMd_differ
  simp (disch := omega) only [zk_let, Option.bind_some, cond_true, cond_false, if_true, if_false, zbF, zbT, within_in, jn9, k0, k1, k2, k3, k4, k5, k6, k7, k8, k9, k10, k12, k16, k17, k20, k29, k30, k31, k32, k36, k40, k41, k42, k48, k57, k59, k60, k64, k98, k99, k100, k112, k128, k200, k255, k256, k378, k420, k999, k1000000, jN_add, jN_mul, jN_clamp, jN_inbT, Bool.false_eq_true, Bool.true_eq_false, jN_div, (hm.2.2.2.2.1 _ hp).1, (hm.2.2.2.2.1 _ hp).2.1, (hm.2.2.2.1 _ h1.1).2.2, (hm.2.2.2.1 _ h1.2.1).2.2]
  rw [(abs_all _ (by omega) _ (by omega)).2]; rfl
/-- WEAR and out of an END behind a GALE -/
def nW (T R : Nat → Nat → Nat) (g e : Nat) : Nat := if R 2 e = 0 then R 1 e + gw (R 0 e) (df T (e / 2)) g else R 1 e
def nO (T R : Nat → Nat → Nat) (g e : Nat) : Nat := if R 2 e = 0 then (if (R 0 e = 0 ∧ 7 ≤ g) ∨ (R 0 e ≠ 0 ∧ zGv (R 0 e) ≤ nW T R g e) then 1 else 0) else R 2 e
def blR (T R : Nat → Nat → Nat) (g K : Nat) : Nat → Nat → Nat := fun a b => if b < K then (if a = 1 then nW T R g b else if a = 2 then nO T R g b else R a b) else R a b
theorem blR_0 (T R : Nat → Nat → Nat) (g : Nat) : blR T R g 0 = R := by funext a b; simp [blR]
theorem blR_at {T R : Nat → Nat → Nat} {g a k : Nat} : blR T R g k a k = R a k := by simp [blR]
theorem blR_s {T R : Nat → Nat → Nat} {g k : Nat} : blR T R g (k + 1) = setR (setR (blR T R g k) 1 k (nW T R g k)) 2 k (nO T R g k) := by
  funext a b
  unfold blR setR
  by_cases hb : b = k
  · subst hb
    by_cases h2 : a = 2
    · simp [h2]
    · by_cases h1 : a = 1
      · simp [h1]
      · simp [h1, h2]
  · have : (b < k + 1) = (b < k) := propext (by omega)
    simp [hb, this]
def zEb (T R : Nat → Nat → Nat) : Prop := ∀ e, e < 2 * T 0 1 → R 0 e ≤ 3 ∧ R 1 e < 64 ∧ R 2 e ≤ 1 ∧ (R 2 e = 0 → R 1 e < zGv (R 0 e))
theorem upd_self {f : Nat → Int32} {i : Nat} {x : Int32} (h : f i = x) : upd f i x = f := by funext j; unfold upd; by_cases c : j = i <;> simp [c, h]
theorem zSx.set12 {T R : Nat → Nat → Nat} {r : Nat → Int32} {e w o : Nat} (hT : zTb T) (h : zSx T R r) (he : e < 2 * T 0 1) : zSx T (setR (setR R 1 e w) 2 e o) (upd (upd r (17 + e) (jN w)) (29 + e) (jN o)) := by
  have t1 := hT.2.1
  have t2 := hT.2.2.1
  have h := h.set1 (w := w) hT he
  refine ⟨by rw [setR_ne (by omega), upd_ne (by omega)]; exact h.1, fun c hc => by rw [setR_ne (by omega), upd_ne (by omega)]; exact h.2.1 c hc, fun f hf => ⟨?_, ?_, ?_⟩⟩
  · rw [setR_ne (by omega), upd_ne (by omega)]; exact (h.2.2 f hf).1
  · rw [setR_ne (by omega), upd_ne (by omega)]; exact (h.2.2 f hf).2.1
  · by_cases c : f = e
    · subst c; rw [setR_at, upd_same]
    · rw [setR_ne2 c, upd_ne (by omega)]; exact (h.2.2 f hf).2.2
theorem blow_L {T R : Nat → Nat → Nat} {y : zkM} {g : Nat} (hT : zTb T) (hS : zEb T R) (hx : zTx T y.1) (sx : zSx T R (y.1 5)) (hg : g ≤ 9) : ∃ q, fScene_blow_L2 500 y (jN g) (jN 0) = some q ∧ ∃ r, q = zk_row y 5 r ∧ zSx T (blR T R g (2 * T 0 1)) r := by
  have t1 := hT.2.1
  refine zl_loop (fun n (s : zkM × Int32) => fScene_blow_L2 n s.1 (jN g) s.2) (fun k s => s.2 = jN k ∧ ∃ r, s.1 = zk_row y 5 r ∧ zSx T (blR T R g k) r) (2 * T 0 1) _ ?_ 500 (y, jN 0) ⟨rfl, y.1 5, zk_row_self.symm, by rw [blR_0]; exact sx⟩ (by omega)
  rintro n k ⟨m, x3⟩ hk ⟨e1, r, e3, hr⟩
  dsimp only at e1 e3
  subst e1; subst e3
  dsimp only
  simp only [fScene_blow_L2, fTree_ends]
  have hP1 : (zk_row y 5 r).1 46 1 = jN (T 0 1) := by rw [zk_row_off (by omega)]; exact hx.2.1
  simp only [hP1]
  by_cases ck : k = 2 * T 0 1
  · left
    refine ⟨zk_row y 5 r, ?_, r, rfl, ck ▸ hr⟩
    simp (disch := omega) only [zk_let, Option.bind_some, cond_true, cond_false, if_true, if_false, zbF, zbT, within_in, jn9, k0, k1, k2, k3, k4, k5, k6, k7, k8, k9, k10, k12, k16, k17, k20, k29, k30, k31, k32, k36, k40, k41, k42, k48, k57, k59, k60, k64, k98, k99, k100, k112, k128, k200, k255, k256, k378, k420, k999, k1000000, jN_add, jN_mul, jN_clamp, jN_inbT, Bool.false_eq_true, Bool.true_eq_false, jN_le]
    rw [if_pos (by omega)]
  · right
    have hk2 : k < 2 * T 0 1 := by omega
    refine ⟨hk2, ?_⟩
    obtain ⟨r1, r2, r3⟩ := hr.2.2 k hk2
    rw [blR_at] at r1 r2 r3
    obtain ⟨b1, b2, b3, b4⟩ := hS k hk2
    have hb3 : fScene_isOut (zk_row y 5 r) (jN k) = some (decide (R 2 k = 1)) := isOut_spec (by omega) (by rw [zk_row_on]; exact r3) b3
    simp only [hb3]
    have hsw : fTree_swayAcross (zk_row y 5 r) (jN (k / 2)) = some (jN (df T (k / 2))) := swayX hT (hx.congr rfl rfl rfl rfl rfl rfl rfl rfl) (by omega)
    have hd := df_le hT (show k / 2 < T 0 1 by omega)
    simp (disch := omega) only [zk_let, Option.bind_some, cond_true, cond_false, if_true, if_false, zbF, zbT, within_in, jn9, k0, k1, k2, k3, k4, k5, k6, k7, k8, k9, k10, k12, k16, k17, k20, k29, k30, k31, k32, k36, k40, k41, k42, k48, k57, k59, k60, k64, k98, k99, k100, k112, k128, k200, k255, k256, k378, k420, k999, k1000000, jN_add, jN_mul, jN_clamp, jN_inbT, Bool.false_eq_true, Bool.true_eq_false, jN_le, jN_div, hsw]
    rw [if_neg (by omega)]
    refine ⟨(zk_row y 5 (upd (upd r (17 + k) (jN (nW T R g k))) (29 + k) (jN (nO T R g k))), jN (k + 1)), ?_, rfl, _, rfl, by rw [blR_s]; exact hr.set12 hT hk2⟩
    by_cases c1 : R 2 k = 1
    · have n1 : nW T R g k = R 1 k := by simp [nW, c1]
      have n2 : nO T R g k = R 2 k := by simp [nO, c1]
      simp only [c1, decide_true, Bool.true_eq_false, if_false, Option.bind_some]
      rw [n1, n2, upd_self r2, upd_self r3]
    · have c0 : R 2 k = 0 := by omega
      simp only [c1, decide_false, if_true]
      have hgw := gw_all (R 0 k) (by omega) (df T (k / 2)) (by omega) g (by omega)
      have hgv := gv_all (R 0 k) (by omega)
      have n1 : nW T R g k = R 1 k + gw (R 0 k) (df T (k / 2)) g := by simp [nW, c0]
      have n2 : nO T R g k = if (R 0 k = 0 ∧ 7 ≤ g) ∨ (R 0 k ≠ 0 ∧ zGv (R 0 k) ≤ nW T R g k) then 1 else 0 := by simp [nO, c0]
      have hbound := b4 c0
      unfold fScene_shake fScene_kindOf fScene_wearOf
      simp (disch := omega) only [zk_let, Option.bind_some, cond_true, cond_false, if_true, if_false, zbF, zbT, within_in, jn9, k0, k1, k2, k3, k4, k5, k6, k7, k8, k9, k10, k12, k16, k17, k20, k29, k30, k31, k32, k36, k40, k41, k42, k48, k57, k59, k60, k64, k98, k99, k100, k112, k128, k200, k255, k256, k378, k420, k999, k1000000, jN_add, jN_mul, jN_clamp, jN_inbT, Bool.false_eq_true, Bool.true_eq_false, zk_row_on, r1, r2, hgw.1, zk_u_at, jN_eq, jN_lt, ← n1, hgv.2.1]
      simp only [zk_u_row, zk_row_row, zk_row_on]
      have hlt : ∀ x, upd r (17 + k) x (29 + k) = jN 0 := fun x => by rw [upd_ne (by omega), r3, c0]
      by_cases d0 : R 0 k = 0
      · have hz : gw (R 0 k) (df T (k / 2)) g = 0 := hgw.2.2.2 d0
        have hw : nW T R g k < 1000000 := by omega
        by_cases d7 : g < 7
        · have n3 : nO T R g k = 0 := by rw [n2]; exact if_neg (by omega)
          rw [n3]
          simp (disch := omega) only [d0, d7, if_true, if_false, Option.bind_some, Bool.false_eq_true, jN_lt, hw]
          rw [upd_self (hlt _)]
        · have n3 : nO T R g k = 1 := by rw [n2]; exact if_pos (by omega)
          rw [n3]
          simp (disch := omega) only [d0, d7, if_true, if_false, Option.bind_some, Bool.true_eq_false]
      · simp (disch := omega) only [d0, if_false, if_true, jN_lt]
        by_cases d9 : nW T R g k < zGv (R 0 k)
        · have n3 : nO T R g k = 0 := by rw [n2]; exact if_neg (by omega)
          rw [n3]
          simp only [d9, if_true, Option.bind_some]
          rw [upd_self (hlt _)]
        · have n3 : nO T R g k = 1 := by rw [n2]; exact if_pos (by omega)
          rw [n3]
          simp only [d9, if_false, Option.bind_some]
theorem blowL_L {T R : Nat → Nat → Nat} {y : zkM} {g : Nat} (hT : zTb T) (hS : zEb T R) (hx : zTx T y.1) (sx : zSx T R (y.1 40)) (hg : g ≤ 9) : ∃ q, fScene_blowL_L2 500 y (jN g) (jN 0) = some q ∧ ∃ r, q = zk_row y 40 r ∧ zSx T (blR T R g (2 * T 0 1)) r := by
  have t1 := hT.2.1
  refine zl_loop (fun n (s : zkM × Int32) => fScene_blowL_L2 n s.1 (jN g) s.2) (fun k s => s.2 = jN k ∧ ∃ r, s.1 = zk_row y 40 r ∧ zSx T (blR T R g k) r) (2 * T 0 1) _ ?_ 500 (y, jN 0) ⟨rfl, y.1 40, zk_row_self.symm, by rw [blR_0]; exact sx⟩ (by omega)
  rintro n k ⟨m, x3⟩ hk ⟨e1, r, e3, hr⟩
  dsimp only at e1 e3
  subst e1; subst e3
  dsimp only
  simp only [fScene_blowL_L2, fTree_ends]
  have hP1 : (zk_row y 40 r).1 46 1 = jN (T 0 1) := by rw [zk_row_off (by omega)]; exact hx.2.1
  simp only [hP1]
  by_cases ck : k = 2 * T 0 1
  · left
    refine ⟨zk_row y 40 r, ?_, r, rfl, ck ▸ hr⟩
    simp (disch := omega) only [zk_let, Option.bind_some, cond_true, cond_false, if_true, if_false, zbF, zbT, within_in, jn9, k0, k1, k2, k3, k4, k5, k6, k7, k8, k9, k10, k12, k16, k17, k20, k29, k30, k31, k32, k36, k40, k41, k42, k48, k57, k59, k60, k64, k98, k99, k100, k112, k128, k200, k255, k256, k378, k420, k999, k1000000, jN_add, jN_mul, jN_clamp, jN_inbT, Bool.false_eq_true, Bool.true_eq_false, jN_le]
    rw [if_pos (by omega)]
  · right
    have hk2 : k < 2 * T 0 1 := by omega
    refine ⟨hk2, ?_⟩
    obtain ⟨r1, r2, r3⟩ := hr.2.2 k hk2
    rw [blR_at] at r1 r2 r3
    obtain ⟨b1, b2, b3, b4⟩ := hS k hk2
    have hb3 : fScene_isOutL (zk_row y 40 r) (jN k) = some (decide (R 2 k = 1)) := isOutL_spec (by omega) (by rw [zk_row_on]; exact r3) b3
    simp only [hb3]
    have hsw : fTree_swayAcross (zk_row y 40 r) (jN (k / 2)) = some (jN (df T (k / 2))) := swayX hT (hx.congr rfl rfl rfl rfl rfl rfl rfl rfl) (by omega)
    have hd := df_le hT (show k / 2 < T 0 1 by omega)
    simp (disch := omega) only [zk_let, Option.bind_some, cond_true, cond_false, if_true, if_false, zbF, zbT, within_in, jn9, k0, k1, k2, k3, k4, k5, k6, k7, k8, k9, k10, k12, k16, k17, k20, k29, k30, k31, k32, k36, k40, k41, k42, k48, k57, k59, k60, k64, k98, k99, k100, k112, k128, k200, k255, k256, k378, k420, k999, k1000000, jN_add, jN_mul, jN_clamp, jN_inbT, Bool.false_eq_true, Bool.true_eq_false, jN_le, jN_div, hsw]
    rw [if_neg (by omega)]
    refine ⟨(zk_row y 40 (upd (upd r (17 + k) (jN (nW T R g k))) (29 + k) (jN (nO T R g k))), jN (k + 1)), ?_, rfl, _, rfl, by rw [blR_s]; exact hr.set12 hT hk2⟩
    by_cases c1 : R 2 k = 1
    · have n1 : nW T R g k = R 1 k := by simp [nW, c1]
      have n2 : nO T R g k = R 2 k := by simp [nO, c1]
      simp only [c1, decide_true, Bool.true_eq_false, if_false, Option.bind_some]
      rw [n1, n2, upd_self r2, upd_self r3]
    · have c0 : R 2 k = 0 := by omega
      simp only [c1, decide_false, if_true]
      have hgw := gw_all (R 0 k) (by omega) (df T (k / 2)) (by omega) g (by omega)
      have hgv := gv_all (R 0 k) (by omega)
      have n1 : nW T R g k = R 1 k + gw (R 0 k) (df T (k / 2)) g := by simp [nW, c0]
      have n2 : nO T R g k = if (R 0 k = 0 ∧ 7 ≤ g) ∨ (R 0 k ≠ 0 ∧ zGv (R 0 k) ≤ nW T R g k) then 1 else 0 := by simp [nO, c0]
      have hbound := b4 c0
      unfold fScene_shakeL fScene_kindOfL fScene_wearOfL
      simp (disch := omega) only [zk_let, Option.bind_some, cond_true, cond_false, if_true, if_false, zbF, zbT, within_in, jn9, k0, k1, k2, k3, k4, k5, k6, k7, k8, k9, k10, k12, k16, k17, k20, k29, k30, k31, k32, k36, k40, k41, k42, k48, k57, k59, k60, k64, k98, k99, k100, k112, k128, k200, k255, k256, k378, k420, k999, k1000000, jN_add, jN_mul, jN_clamp, jN_inbT, Bool.false_eq_true, Bool.true_eq_false, zk_row_on, r1, r2, hgw.1, zk_u_at, jN_eq, jN_lt, ← n1, hgv.2.1]
      simp only [zk_u_row, zk_row_row, zk_row_on]
      have hlt : ∀ x, upd r (17 + k) x (29 + k) = jN 0 := fun x => by rw [upd_ne (by omega), r3, c0]
      by_cases d0 : R 0 k = 0
      · have hz : gw (R 0 k) (df T (k / 2)) g = 0 := hgw.2.2.2 d0
        have hw : nW T R g k < 1000000 := by omega
        by_cases d7 : g < 7
        · have n3 : nO T R g k = 0 := by rw [n2]; exact if_neg (by omega)
          rw [n3]
          simp (disch := omega) only [d0, d7, if_true, if_false, Option.bind_some, Bool.false_eq_true, jN_lt, hw]
          rw [upd_self (hlt _)]
        · have n3 : nO T R g k = 1 := by rw [n2]; exact if_pos (by omega)
          rw [n3]
          simp (disch := omega) only [d0, d7, if_true, if_false, Option.bind_some, Bool.true_eq_false]
      · simp (disch := omega) only [d0, if_false, if_true, jN_lt]
        by_cases d9 : nW T R g k < zGv (R 0 k)
        · have n3 : nO T R g k = 0 := by rw [n2]; exact if_neg (by omega)
          rw [n3]
          simp only [d9, if_true, Option.bind_some]
          rw [upd_self (hlt _)]
        · have n3 : nO T R g k = 1 := by rw [n2]; exact if_pos (by omega)
          rw [n3]
          simp only [d9, if_false, Option.bind_some]
