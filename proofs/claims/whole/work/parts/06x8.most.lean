/-! most, richest -/
def wX (T : Nat → Nat → Nat) (b : Bool) (c : Nat) : Int := if b = true then 10 * (T 8 c : Int) - 1 else 1
def off (b : Bool) : Int := if b = true then 9 else 0
theorem wX_ok {T : Nat → Nat → Nat} (hT : zTb T) (b : Bool) : wOk T (wX T b) := by
  intro j hj
  have := hT.2.2.2.2.2 j hj
  unfold wX
  split <;> omega
theorem seek34M {T : Nat → Nat → Nat} {y : zkM} (hT : zTb T) (hx : zTx T y.1) : ∃ r, fPlanner_seekMost_L2 500 y (jN 0) = some (zk_row y 34 r) ∧ ∀ j, j < T 0 2 → r j = iI (wX T false j) := by
  have t3 := hT.2.2.1
  obtain ⟨q, h1, r, h2, h3⟩ := zl_loop (fun n (s : zkM × Int32) => fPlanner_seekMost_L2 n s.1 s.2) (fun k s => s.2 = jN k ∧ ∃ r, s.1 = zk_row y 34 r ∧ ∀ j, j < k → r j = iI (wX T false j)) (T 0 2) (fun q => ∃ r, q = zk_row y 34 r ∧ ∀ j, j < T 0 2 → r j = iI (wX T false j)) (by
    rintro n k ⟨m, x⟩ hk ⟨e1, r, e2, hr⟩
    dsimp only at e1 e2
    subst e1; subst e2
    have hP : (zk_row y 34 r).1 46 2 = jN (T 0 2) := by rw [zk_row_off (by omega)]; exact hx.2.2.1
    simp only [fPlanner_seekMost_L2, hP]
    by_cases c : k = T 0 2
    · left
      refine ⟨_, ?_, r, rfl, c ▸ hr⟩
      simp (disch := omega) only [zk_let, Option.bind_some, cond_true, cond_false, if_true, if_false, zbF, zbT, within_in, jn9, k0, k1, k2, k3, k4, k5, k6, k7, k8, k9, k10, k12, k16, k17, k20, k29, k30, k31, k32, k36, k40, k41, k42, k48, k57, k59, k60, k64, k98, k99, k100, k112, k128, k200, k255, k256, k378, k420, k999, k1000000, jN_add, jN_mul, jN_clamp, jN_inbT, Bool.false_eq_true, Bool.true_eq_false, jN_le]
      rw [if_pos (by omega)]
    · right
      refine ⟨by omega, (zk_row y 34 (upd r k (jN 1)), jN (k + 1)), ?_, rfl, _, rfl, fun j hj => ?_⟩
      · simp (disch := omega) only [zk_let, Option.bind_some, cond_true, cond_false, if_true, if_false, zbF, zbT, within_in, jn9, k0, k1, k2, k3, k4, k5, k6, k7, k8, k9, k10, k12, k16, k17, k20, k29, k30, k31, k32, k36, k40, k41, k42, k48, k57, k59, k60, k64, k98, k99, k100, k112, k128, k200, k255, k256, k378, k420, k999, k1000000, jN_add, jN_mul, jN_clamp, jN_inbT, Bool.false_eq_true, Bool.true_eq_false, jN_le, zk_u_row, zk_row_row, zk_row_on]
        rw [if_neg (by omega)]
      · by_cases c2 : j = k
        · rw [c2, upd_same]; rfl
        · rw [upd_ne c2]; exact hr j (by omega)) 500 (y, jN 0) ⟨rfl, y.1 34, zk_row_self.symm, fun j h => by omega⟩ (by omega)
  subst h2
  exact ⟨r, h1, h3⟩
theorem seek34R {T : Nat → Nat → Nat} {y : zkM} (hT : zTb T) (hx : zTx T y.1) : ∃ r, fPlanner_seekRichest_L2 500 y (jN 0) = some (zk_row y 34 r) ∧ ∀ j, j < T 0 2 → r j = iI (wX T true j) := by
  have t3 := hT.2.2.1
  obtain ⟨q, h1, r, h2, h3⟩ := zl_loop (fun n (s : zkM × Int32) => fPlanner_seekRichest_L2 n s.1 s.2) (fun k s => s.2 = jN k ∧ ∃ r, s.1 = zk_row y 34 r ∧ ∀ j, j < k → r j = iI (wX T true j)) (T 0 2) (fun q => ∃ r, q = zk_row y 34 r ∧ ∀ j, j < T 0 2 → r j = iI (wX T true j)) (by
    rintro n k ⟨m, x⟩ hk ⟨e1, r, e2, hr⟩
    dsimp only at e1 e2
    subst e1; subst e2
    have hP : (zk_row y 34 r).1 46 2 = jN (T 0 2) := by rw [zk_row_off (by omega)]; exact hx.2.2.1
    simp only [fPlanner_seekRichest_L2, hP]
    by_cases c : k = T 0 2
    · left
      refine ⟨_, ?_, r, rfl, c ▸ hr⟩
      simp (disch := omega) only [zk_let, Option.bind_some, cond_true, cond_false, if_true, if_false, zbF, zbT, within_in, jn9, k0, k1, k2, k3, k4, k5, k6, k7, k8, k9, k10, k12, k16, k17, k20, k29, k30, k31, k32, k36, k40, k41, k42, k48, k57, k59, k60, k64, k98, k99, k100, k112, k128, k200, k255, k256, k378, k420, k999, k1000000, jN_add, jN_mul, jN_clamp, jN_inbT, Bool.false_eq_true, Bool.true_eq_false, jN_le]
      rw [if_pos (by omega)]
    · right
      have h54 : (zk_row y 34 r).1 54 k = jN (T 8 k) := by rw [zk_row_off (by omega)]; exact (hx.2.2.2.2.2 k (by omega)).2
      refine ⟨by omega, (zk_row y 34 (upd r k (jN (10 * T 8 k) - jN 1)), jN (k + 1)), ?_, rfl, _, rfl, fun j hj => ?_⟩
      · simp (disch := omega) only [zk_let, Option.bind_some, cond_true, cond_false, if_true, if_false, zbF, zbT, within_in, jn9, k0, k1, k2, k3, k4, k5, k6, k7, k8, k9, k10, k12, k16, k17, k20, k29, k30, k31, k32, k36, k40, k41, k42, k48, k57, k59, k60, k64, k98, k99, k100, k112, k128, k200, k255, k256, k378, k420, k999, k1000000, jN_add, jN_mul, jN_clamp, jN_inbT, Bool.false_eq_true, Bool.true_eq_false, jN_le, zk_u_row, zk_row_row, zk_row_on, h54]
        rw [if_neg (by omega)]
      · by_cases c2 : j = k
        · rw [c2, upd_same]; unfold jN; rw [iI_sub]; congr 1
        · rw [upd_ne c2]; exact hr j (by omega)) 500 (y, jN 0) ⟨rfl, y.1 34, zk_row_self.symm, fun j h => by omega⟩ (by omega)
  subst h2
  exact ⟨r, h1, h3⟩
theorem zk_max_0 {w : Int} (h1 : -1000 < w) (h2 : w < 1000) : zk_max (jN 0) (iI w) = iI (if 0 < w then w else 0) := by
  unfold zk_max
  have e : (jN 0 < iI w) ↔ 0 < w := by show iI 0 < iI w ↔ _; rw [iI_lt (by omega) (by omega) (by omega) (by omega)]
  simp only [e]
  by_cases c : 0 < w
  · rw [if_pos c, if_pos c]
  · rw [if_neg c, if_neg c]; rfl
theorem seek17 {T : Nat → Nat → Nat} {wo : Nat → Int} {y : zkM} {r0 : Nat → Int32} (hT : zTb T) (hw : wOk T wo) (h34 : ∀ j, j < T 0 2 → y.1 34 j = iI (wo j)) (h0 : r0 (T 0 2) = iI 0) : ∃ r, fPlanner_seek_L17 500 (zk_row y 35 r0) (dn (T 0 2)) = some (zk_row y 35 r) ∧ ∀ j, j ≤ T 0 2 → r j = iI (hp T wo j) := by
  have t3 := hT.2.2.1
  obtain ⟨q, h1, r, h2, h3⟩ := zl_loop (fun n (s : zkM × Int32) => fPlanner_seek_L17 n s.1 s.2) (fun k s => s.2 = dn (T 0 2 - k) ∧ ∃ r, s.1 = zk_row y 35 r ∧ ∀ j, T 0 2 - k ≤ j → j ≤ T 0 2 → r j = iI (hp T wo j)) (T 0 2) (fun q => ∃ r, q = zk_row y 35 r ∧ ∀ j, j ≤ T 0 2 → r j = iI (hp T wo j)) (by
    rintro n k ⟨m, x⟩ hk ⟨e1, r, e2, hr⟩
    dsimp only at e1 e2
    subst e1; subst e2
    simp only [fPlanner_seek_L17]
    by_cases c : k = T 0 2
    · left
      refine ⟨_, ?_, r, rfl, fun j hj => hr j (by omega) hj⟩
      rw [show T 0 2 - k = 0 by omega, if_pos dn_0]
    · right
      obtain ⟨c9, hc9⟩ : ∃ c9, T 0 2 - k = c9 + 1 := ⟨T 0 2 - k - 1, by omega⟩
      have hwc := hw c9 (by omega)
      have h34' : (zk_row y 35 r).1 34 c9 = iI (wo c9) := by rw [zk_row_off (by omega)]; exact h34 c9 (by omega)
      refine ⟨by omega, (zk_row y 35 (upd r c9 (iI (hp T wo c9))), dn (T 0 2 - (k + 1))), ?_, rfl, _, rfl, fun j h1 h2 => ?_⟩
      · rw [hc9, dn_s]
        simp (disch := omega) only [zk_let, Option.bind_some, cond_true, cond_false, if_true, if_false, zbF, zbT, within_in, jn9, k0, k1, k2, k3, k4, k5, k6, k7, k8, k9, k10, k12, k16, k17, k20, k29, k30, k31, k32, k36, k40, k41, k42, k48, k57, k59, k60, k64, k98, k99, k100, k112, k128, k200, k255, k256, k378, k420, k999, k1000000, jN_add, jN_mul, jN_clamp, jN_inbT, Bool.false_eq_true, Bool.true_eq_false, jN_lt, zk_u_row, zk_row_row, zk_row_on, h34', zk_max_0, hr (c9 + 1) (by omega) (by omega), iI_add, dn_m]
        rw [if_neg (by omega), show T 0 2 - (k + 1) = c9 by omega]
        have e9 : hp T wo (c9 + 1) + (if 0 < wo c9 then wo c9 else 0) = hp T wo c9 := by
          unfold hp
          rw [show T 0 2 - c9 = (T 0 2 - (c9 + 1)) + 1 by omega]
          simp only [hpN]
          rw [show T 0 2 - 1 - (T 0 2 - (c9 + 1)) = c9 by omega]
        rw [e9]
      · by_cases c2 : j = c9
        · rw [c2, upd_same]
        · rw [upd_ne c2]; exact hr j (by omega) h2) 500 (zk_row y 35 r0, dn (T 0 2)) ⟨rfl, r0, rfl, fun j h1 h2 => by
          rw [show j = T 0 2 by omega, h0]; congr 1; unfold hp; rw [Nat.sub_self]; rfl⟩ (by omega)
  subst h2
  exact ⟨r, h1, h3⟩
def bR9 (T R : Nat → Nat → Nat) (b : Bool) : Int × Nat := fo (rF T R) (rV T (wX T b)) 0 ((T 0 1 + 1) ^ T 0 2) (-1, 0)
theorem seekX {T R : Nat → Nat → Nat} {b : Bool} {y : zkM} {r34 : Nat → Int32} (hT : zTb T) (hx : zTx T y.1) (hS : zEb T R) (sx : zSx T R (y.1 5)) (h34 : ∀ j, j < T 0 2 → r34 j = iI (wX T b j)) : ∃ mem', fPlanner_seek (zk_row y 34 r34) = some mem' ∧ zFx y mem' ∧ ∀ j, j < T 0 2 → mem'.1 37 j = zOn T (dp T (T 0 2) (bR9 T R b).2 j) := by
  have t3 := hT.2.2.1
  have hw := wX_ok hT b
  have hC : (zk_row y 34 r34).1 46 2 = jN (T 0 2) := by rw [zk_row_off (by omega)]; exact hx.2.2.1
  obtain ⟨r35, e1, h35⟩ := seek17 (y := zk_row y 34 r34) (r0 := upd ((zk_row y 34 r34).1 35) (T 0 2) (jN 0)) hT hw (by rw [zk_row_on]; exact h34) (by rw [upd_same]; rfl)
  obtain ⟨a, b9, e2, hl⟩ := emptyP_spec (y := zk_row (zk_row y 34 r34) 35 r35) hT
  generalize hm5 : zk_row (zk_row (zk_row (zk_row y 34 r34) 35 r35) 32 a) 33 b9 = m5 at e2
  have hfr : zFx y m5 := by rw [← hm5]; exact ((((zFx.rf y).row (by omega)).row (by omega)).row (by omega)).row (by omega)
  have q34 : m5.1 34 = r34 := by rw [← hm5]; rfl
  have q35 : m5.1 35 = r35 := by rw [← hm5]; rfl
  have q32 : m5.1 32 = a := by rw [← hm5]; rfl
  have q33 : m5.1 33 = b9 := by rw [← hm5]; rfl
  have hps : PS T (wX T b) y (zk_u m5 30 5 (iI (-1))) 0 (dp T 0 0) (-1, 0) := by
    refine ⟨?_, hfr.u (by omega), fun j hj => by omega, ?_, ?_, zk_u_at, by show (-1 : Int) ≤ -1; omega, by show (-1 : Int) < 1000; omega, fun h => by have h' : (0 : Int) ≤ -1 := h; omega⟩
    · rw [zk_u_off (by omega), zk_u_off (by omega), q32, q33]; exact hl
    · rw [zk_u_off (by omega), q34]; exact h34
    · rw [zk_u_off (by omega), q35]; exact h35
  obtain ⟨mem', e3, hp3⟩ := placeX (R := R) hT hx hS sx hw 12 0 0 (zk_u m5 30 5 (iI (-1))) (-1, 0) (by omega) (by omega) (hA_0 hT) hps
  rw [Nat.zero_mul, Nat.sub_zero] at hp3
  have hfin := fo_fin (R := R) (wo := wX T b) (st := (-1, 0)) hT
  refine ⟨mem', ?_, hp3.2.1, hp3.2.2.2.2.2.2.2.2 hfin⟩
  unfold fPlanner_seek
  simp only [hC, zk_u_row]
  simp (disch := omega) only [zk_let, Option.bind_some, cond_true, cond_false, if_true, if_false, zbF, zbT, within_in, jn9, k0, k1, k2, k3, k4, k5, k6, k7, k8, k9, k10, k12, k16, k17, k20, k29, k30, k31, k32, k36, k40, k41, k42, k48, k57, k59, k60, k64, k98, k99, k100, k112, k128, k200, k255, k256, k378, k420, k999, k1000000, jN_add, jN_mul, jN_clamp, jN_inbT, Bool.false_eq_true, Bool.true_eq_false]
  have hC2 : ∀ r, (zk_row (zk_row y 34 r34) 35 r).1 46 2 = jN (T 0 2) := fun r => by rw [zk_row_off (by omega)]; exact hC
  rw [hC2, dn_f, e1]
  simp only [Option.bind_some, e2]
  rw [← zk_u_row]
  have e4 : fPlanner_placeFrom 12 (zk_u m5 30 5 (-jN 1)) (jN 0) (jN 0) = some mem' := e3
  rw [e4]
  rfl
/-! the model's rows -/
theorem jN_rem {a b : Nat} (h1 : a < 2147483648) (h2 : b < 2147483648) : jN a - jN a / jN b * jN b = jN (a % b) := by
  have h3 := Nat.div_add_mod a b
  rw [jN_div h1 h2, jN_mul, jN_sub (by rw [Nat.mul_comm]; omega), Nat.mul_comm]
  congr 1; omega
theorem jN_rem2 {a b : Nat} : jN a - jN (a / b * b) = jN (a % b) := by
  rw [jN_sub (Nat.div_mul_le_self a b)]
  congr 1
  have h3 := Nat.div_add_mod a b
  rw [Nat.mul_comm] at h3
  omega
theorem lays9 {T : Nat → Nat → Nat} {z : zkM} {i : Nat} (hT : zTb T) (hm : zTm T z.1) (hi : i < 100000) : ∃ o, fMd_lays_L9 500 z (jN i) (dn (T 0 2)) = some (zk_row z 13 o) ∧ ∀ c, c < T 0 2 → o c = zOn T (dp T (T 0 2) i c) := by
  have t2 := hT.2.1
  have t3 := hT.2.2.1
  obtain ⟨q, h1, r, h2, h3⟩ := zl_loop (fun n (s : zkM × Int32 × Int32) => fMd_lays_L9 n s.1 s.2.1 s.2.2) (fun k s => s.2.2 = dn (T 0 2 - k) ∧ s.2.1 = jN (i / (T 0 1 + 1) ^ k) ∧ ∃ r, s.1 = zk_row z 13 r ∧ ∀ c, T 0 2 - k ≤ c → c < T 0 2 → r c = zOn T (dp T (T 0 2) i c)) (T 0 2) (fun q => ∃ r, q = zk_row z 13 r ∧ ∀ c, c < T 0 2 → r c = zOn T (dp T (T 0 2) i c)) (by
    rintro n k ⟨m, x2, x3⟩ hk ⟨e1, e2, r, e3, hr⟩
    dsimp only at e1 e2 e3
    subst e1; subst e2; subst e3
    have hP : ∀ s, (zk_row z 13 s).1 0 2 = jN (T 0 1) := fun s => by rw [zk_row_off (by omega)]; exact hm.2.1
    simp only [fMd_lays_L9]
    by_cases c : k = T 0 2
    · left
      refine ⟨_, ?_, r, rfl, fun j hj => hr j (by omega) hj⟩
      rw [show T 0 2 - k = 0 by omega, if_pos dn_0]
    · right
      obtain ⟨c9, hc9⟩ : ∃ c9, T 0 2 - k = c9 + 1 := ⟨T 0 2 - k - 1, by omega⟩
      have hd : i / (T 0 1 + 1) ^ k ≤ i := Nat.div_le_self _ _
      have hm9 : i / (T 0 1 + 1) ^ k % (T 0 1 + 1) < T 0 1 + 1 := Nat.mod_lt _ (by omega)
      have hdig : dp T (T 0 2) i c9 = i / (T 0 1 + 1) ^ k % (T 0 1 + 1) := by unfold dp; rw [show T 0 2 - 1 - c9 = k by omega]
      refine ⟨by omega, (zk_row z 13 (upd r c9 (zOn T (dp T (T 0 2) i c9))), jN (i / (T 0 1 + 1) ^ (k + 1)), dn (T 0 2 - (k + 1))), ?_, rfl, rfl, _, rfl, fun j h1 h2 => ?_⟩
      · rw [hc9, dn_s]
        simp (disch := omega) only [zk_let, Option.bind_some, cond_true, cond_false, if_true, if_false, zbF, zbT, within_in, jn9, k0, k1, k2, k3, k4, k5, k6, k7, k8, k9, k10, k12, k16, k17, k20, k29, k30, k31, k32, k36, k40, k41, k42, k48, k57, k59, k60, k64, k98, k99, k100, k112, k128, k200, k255, k256, k378, k420, k999, k1000000, jN_add, jN_mul, jN_clamp, jN_inbT, Bool.false_eq_true, Bool.true_eq_false, hP, jN_lt, jN_rem2, jN_div, zk_u_row, zk_row_row, zk_row_on, dn_m]
        simp (disch := omega) only [jN_eq]
        rw [if_neg (by omega), if_neg (by omega), if_neg (by omega), show T 0 2 - (k + 1) = c9 by omega, Nat.pow_succ, ← Nat.div_div_eq_div_mul, hdig]
        have e9 : (if i / (T 0 1 + 1) ^ k % (T 0 1 + 1) = T 0 1 then jNo else jN (i / (T 0 1 + 1) ^ k % (T 0 1 + 1))) = zOn T (i / (T 0 1 + 1) ^ k % (T 0 1 + 1)) := by
          unfold zOn
          by_cases c5 : i / (T 0 1 + 1) ^ k % (T 0 1 + 1) = T 0 1
          · rw [if_pos c5, if_neg (by omega)]
          · rw [if_neg c5, if_pos (by omega)]
        rw [e9]
      · by_cases c2 : j = c9
        · rw [c2, upd_same]
        · rw [upd_ne c2]; exact hr j (by omega) h2) 500 (z, jN i, dn (T 0 2)) ⟨rfl, by rw [Nat.pow_zero, Nat.div_one], z.1 13, zk_row_self.symm, fun c h1 h2 => by omega⟩ (by omega)
  subst h2
  exact ⟨r, h1, h3⟩
def zG (z mem : zkM) : Prop := (∀ k, (k < 13 ∨ 15 < k) → mem.1 k = z.1 k) ∧ mem.2 = z.2
theorem zG.km {z mem : zkM} (h : zG z mem) : zKm z mem :=
  ⟨fun k hk => h.1 k (Or.inl (by unfold zRm at hk; rw [Bool.and_eq_true] at hk; have := Nat.le_of_ble_eq_true hk.2; omega)), by rw [h.1 0 (by omega)], by rw [h.1 0 (by omega)], by rw [h.1 0 (by omega)], by rw [h.1 0 (by omega)], by rw [h.1 0 (by omega)], by rw [h.1 0 (by omega)], by rw [h.2]⟩
theorem zG.tm {T : Nat → Nat → Nat} {z mem : zkM} (h : zG z mem) (hm : zTm T z.1) : zTm T mem.1 :=
  hm.congr (by rw [h.1 0 (by omega)]) (by rw [h.1 0 (by omega)]) (by rw [h.1 0 (by omega)]) (h.1 1 (by omega)) (h.1 2 (by omega)) (h.1 3 (by omega))
theorem laysM {T : Nat → Nat → Nat} {z mem : zkM} {i : Nat} (hT : zTb T) (hm : zTm T z.1) (hg : zG z mem) (hi : i < 100000) : ∃ mem', fMd_lays mem (jN i) = some mem' ∧ zG z mem' ∧ (∀ c, c < T 0 2 → mem'.1 13 c = zOn T (dp T (T 0 2) i c)) ∧ zLd T (ld T (dp T (T 0 2) i) (T 0 2)) (mem'.1 14) (mem'.1 15) := by
  have hmm := hg.tm hm
  obtain ⟨o, e1, ho⟩ := lays9 hT hmm hi
  obtain ⟨a, b, e2, hl⟩ := layLoads_spec (u := dp T (T 0 2) i) (z := zk_row mem 13 o) hT (hmm.congr rfl rfl rfl rfl rfl rfl) (by rw [zk_row_on]; exact ho)
  refine ⟨zk_row (zk_row (zk_row mem 13 o) 14 a) 15 b, ?_, ⟨fun k hk => ?_, hg.2⟩, ?_, ?_⟩
  · unfold fMd_lays
    rw [hmm.2.2.1, k1, dn_f]
    simp only [zk_let, e1, e2, Option.bind_some]
  · rw [zk_row_off (by omega), zk_row_off (by omega), zk_row_off (by omega)]; exact hg.1 k hk
  · exact ho
  · exact hl
def isP (T : Nat → Nat → Nat) (u : Nat → Nat) (c : Nat) : Bool := decide (u c < T 0 1)
def pd (T : Nat → Nat → Nat) (u : Nat → Nat) (k : Nat) : Nat := sm (fun c => if u c < T 0 1 then T 8 c else 0) k
theorem pd_le {T : Nat → Nat → Nat} {u : Nat → Nat} (hT : zTb T) : pd T u (T 0 2) ≤ T 0 2 * 9 := by
  apply sm_le
  intro c hc
  have := hT.2.2.2.2.2 c hc
  split <;> omega
theorem zOn_no {T : Nat → Nat → Nat} {n : Nat} (hT : zTb T) : (zOn T n = jNo) = ¬ n < T 0 1 := by
  have t2 := hT.2.1
  unfold zOn
  apply propext
  by_cases c : n < T 0 1
  · rw [if_pos c]; exact ⟨fun e => absurd e (jN_no (by omega)), fun h => absurd c h⟩
  · rw [if_neg c]; simp [c]
theorem fPlanner_howMany_spec {T : Nat → Nat → Nat} {u : Nat → Nat} {y : zkM} (hT : zTb T) (hx : zTx T y.1) (h : ∀ c, c < T 0 2 → y.1 37 c = zOn T (u c)) : fPlanner_howMany y = some (jN (cnt (isP T u) (T 0 2))) := by
  have t2 := hT.2.1
  have t3 := hT.2.2.1
  unfold fPlanner_howMany
  have := zl_eq (fun n (s : Int32 × Int32) => fPlanner_howMany_L4 n y s.1 s.2) (fun k => (jN (cnt (isP T u) k), jN k)) (T 0 2) (jN (cnt (isP T u) (T 0 2))) ?_ ?_ 500 (by omega)
  · rw [k0]; dsimp only at this; rw [show cnt (isP T u) 0 = 0 from rfl] at this; rw [this]; rfl
  · intro n k hk
    simp only [fPlanner_howMany_L4]
    simp (disch := omega) only [zk_let, Option.bind_some, cond_true, cond_false, if_true, if_false, zbF, zbT, within_in, jn9, k0, k1, k2, k3, k4, k5, k6, k7, k8, k9, k10, k12, k16, k17, k20, k29, k30, k31, k32, k36, k40, k41, k42, k48, k57, k59, k60, k64, k98, k99, k100, k112, k128, k200, k255, k256, k378, k420, k999, k1000000, jN_add, jN_mul, jN_clamp, jN_inbT, Bool.false_eq_true, Bool.true_eq_false, hx.2.2.1, jN_le, h k hk, zOn_no hT]
    rw [if_neg (by omega)]
    have e : cnt (isP T u) (k + 1) = cnt (isP T u) k + (if isP T u k = true then 1 else 0) := rfl
    rw [e]
    by_cases c : u k < T 0 1
    · rw [if_neg (by simpa using c), if_pos (show isP T u k = true from decide_eq_true c), show zk_b true = jN 1 by decide, jN_add]
    · rw [if_pos c, if_neg (show ¬ isP T u k = true by unfold isP; simpa using c), show zk_b false = jN 0 by decide, jN_add]
  · intro n
    simp only [fPlanner_howMany_L4]
    simp (disch := omega) only [zk_let, Option.bind_some, cond_true, cond_false, if_true, if_false, zbF, zbT, within_in, jn9, k0, k1, k2, k3, k4, k5, k6, k7, k8, k9, k10, k12, k16, k17, k20, k29, k30, k31, k32, k36, k40, k41, k42, k48, k57, k59, k60, k64, k98, k99, k100, k112, k128, k200, k255, k256, k378, k420, k999, k1000000, jN_add, jN_mul, jN_clamp, jN_inbT, Bool.false_eq_true, Bool.true_eq_false, hx.2.2.1, jN_le]
    rw [if_pos (by omega)]
theorem fMd_standing_spec {T : Nat → Nat → Nat} {u : Nat → Nat} {y : zkM} (hT : zTb T) (hx : zTm T y.1) (h : ∀ c, c < T 0 2 → y.1 13 c = zOn T (u c)) : fMd_standing y = some (jN (cnt (isP T u) (T 0 2))) := by
  have t2 := hT.2.1
  have t3 := hT.2.2.1
  unfold fMd_standing
  have := zl_eq (fun n (s : Int32 × Int32) => fMd_standing_L4 n y s.1 s.2) (fun k => (jN (cnt (isP T u) k), jN k)) (T 0 2) (jN (cnt (isP T u) (T 0 2))) ?_ ?_ 500 (by omega)
  · rw [k0]; dsimp only at this; rw [show cnt (isP T u) 0 = 0 from rfl] at this; rw [this]; rfl
  · intro n k hk
    simp only [fMd_standing_L4]
    simp (disch := omega) only [zk_let, Option.bind_some, cond_true, cond_false, if_true, if_false, zbF, zbT, within_in, jn9, k0, k1, k2, k3, k4, k5, k6, k7, k8, k9, k10, k12, k16, k17, k20, k29, k30, k31, k32, k36, k40, k41, k42, k48, k57, k59, k60, k64, k98, k99, k100, k112, k128, k200, k255, k256, k378, k420, k999, k1000000, jN_add, jN_mul, jN_clamp, jN_inbT, Bool.false_eq_true, Bool.true_eq_false, hx.2.2.1, jN_le, h k hk, zOn_no hT]
    rw [if_neg (by omega)]
    have e : cnt (isP T u) (k + 1) = cnt (isP T u) k + (if isP T u k = true then 1 else 0) := rfl
    rw [e]
    by_cases c : u k < T 0 1
    · rw [if_neg (by simpa using c), if_pos (show isP T u k = true from decide_eq_true c), show zk_b true = jN 1 by decide, jN_add]
    · rw [if_pos c, if_neg (show ¬ isP T u k = true by unfold isP; simpa using c), show zk_b false = jN 0 by decide, jN_add]
  · intro n
    simp only [fMd_standing_L4]
    simp (disch := omega) only [zk_let, Option.bind_some, cond_true, cond_false, if_true, if_false, zbF, zbT, within_in, jn9, k0, k1, k2, k3, k4, k5, k6, k7, k8, k9, k10, k12, k16, k17, k20, k29, k30, k31, k32, k36, k40, k41, k42, k48, k57, k59, k60, k64, k98, k99, k100, k112, k128, k200, k255, k256, k378, k420, k999, k1000000, jN_add, jN_mul, jN_clamp, jN_inbT, Bool.false_eq_true, Bool.true_eq_false, hx.2.2.1, jN_le]
    rw [if_pos (by omega)]
theorem howMuch_spec {T : Nat → Nat → Nat} {u : Nat → Nat} {y : zkM} (hT : zTb T) (hx : zTx T y.1) (h : ∀ c, c < T 0 2 → y.1 37 c = zOn T (u c)) : fPlanner_howMuch y = some (jN (pd T u (T 0 2))) := by
  have t2 := hT.2.1
  have t3 := hT.2.2.1
  unfold fPlanner_howMuch
  have := zl_eq (fun n (s : Int32 × Int32) => fPlanner_howMuch_L4 n y s.1 s.2) (fun k => (jN (pd T u k), jN k)) (T 0 2) (jN (pd T u (T 0 2))) ?_ ?_ 500 (by omega)
  · rw [k0]; dsimp only at this; rw [show pd T u 0 = 0 from rfl] at this; rw [this]; rfl
  · intro n k hk
    simp only [fPlanner_howMuch_L4]
    simp (disch := omega) only [zk_let, Option.bind_some, cond_true, cond_false, if_true, if_false, zbF, zbT, within_in, jn9, k0, k1, k2, k3, k4, k5, k6, k7, k8, k9, k10, k12, k16, k17, k20, k29, k30, k31, k32, k36, k40, k41, k42, k48, k57, k59, k60, k64, k98, k99, k100, k112, k128, k200, k255, k256, k378, k420, k999, k1000000, jN_add, jN_mul, jN_clamp, jN_inbT, Bool.false_eq_true, Bool.true_eq_false, hx.2.2.1, jN_le, h k hk, zOn_no hT, (hx.2.2.2.2.2 k hk).2]
    rw [if_neg (by omega)]
    have e : pd T u (k + 1) = pd T u k + (if u k < T 0 1 then T 8 k else 0) := rfl
    rw [e]
    by_cases c : u k < T 0 1
    · rw [if_neg (by simpa using c), if_pos c]; simp only [Option.bind_some, jN_add]
    · rw [if_pos c, if_neg c]; simp only [Option.bind_some, jN_add]
  · intro n
    simp only [fPlanner_howMuch_L4]
    simp (disch := omega) only [zk_let, Option.bind_some, cond_true, cond_false, if_true, if_false, zbF, zbT, within_in, jn9, k0, k1, k2, k3, k4, k5, k6, k7, k8, k9, k10, k12, k16, k17, k20, k29, k30, k31, k32, k36, k40, k41, k42, k48, k57, k59, k60, k64, k98, k99, k100, k112, k128, k200, k255, k256, k378, k420, k999, k1000000, jN_add, jN_mul, jN_clamp, jN_inbT, Bool.false_eq_true, Bool.true_eq_false, hx.2.2.1, jN_le]
    rw [if_pos (by omega)]
theorem paid_spec {T : Nat → Nat → Nat} {u : Nat → Nat} {z : zkM} (hT : zTb T) (hm : zTm T z.1) (h : ∀ c, c < T 0 2 → z.1 13 c = zOn T (u c)) : fMd_paid z = some (jN (pd T u (T 0 2))) := by
  have t2 := hT.2.1
  have t3 := hT.2.2.1
  unfold fMd_paid
  have := zl_eq (fun n (s : Int32 × Int32) => fMd_paid_L4 n z s.1 s.2) (fun k => (jN (pd T u k), jN k)) (T 0 2) (jN (pd T u (T 0 2))) ?_ ?_ 500 (by omega)
  · rw [k0]; dsimp only at this; rw [show pd T u 0 = 0 from rfl] at this; rw [this]; rfl
  · intro n k hk
    simp only [fMd_paid_L4]
    simp (disch := omega) only [zk_let, Option.bind_some, cond_true, cond_false, if_true, if_false, zbF, zbT, within_in, jn9, k0, k1, k2, k3, k4, k5, k6, k7, k8, k9, k10, k12, k16, k17, k20, k29, k30, k31, k32, k36, k40, k41, k42, k48, k57, k59, k60, k64, k98, k99, k100, k112, k128, k200, k255, k256, k378, k420, k999, k1000000, jN_add, jN_mul, jN_clamp, jN_inbT, Bool.false_eq_true, Bool.true_eq_false, hm.2.2.1, jN_le, h k hk, zOn_no hT, (hm.2.2.2.2.2 k hk).2]
    rw [if_neg (by omega)]
    have e : pd T u (k + 1) = pd T u k + (if u k < T 0 1 then T 8 k else 0) := rfl
    rw [e]
    by_cases c : u k < T 0 1
    · rw [if_neg (by simpa using c), if_pos c]; simp only [Option.bind_some, jN_add]
    · rw [if_pos c, if_neg c]; simp only [Option.bind_some, jN_add]
  · intro n
    simp only [fMd_paid_L4]
    simp (disch := omega) only [zk_let, Option.bind_some, cond_true, cond_false, if_true, if_false, zbF, zbT, within_in, jn9, k0, k1, k2, k3, k4, k5, k6, k7, k8, k9, k10, k12, k16, k17, k20, k29, k30, k31, k32, k36, k40, k41, k42, k48, k57, k59, k60, k64, k98, k99, k100, k112, k128, k200, k255, k256, k378, k420, k999, k1000000, jN_add, jN_mul, jN_clamp, jN_inbT, Bool.false_eq_true, Bool.true_eq_false, hm.2.2.1, jN_le]
    rw [if_pos (by omega)]
theorem sV_most {T : Nat → Nat → Nat} {u : Nat → Nat} (k : Nat) : sV T (wX T false) u k = (cnt (isP T u) k : Nat) := by
  induction k with
  | zero => rfl
  | succ k ih =>
    simp only [sV]
    have e : cnt (isP T u) (k + 1) = cnt (isP T u) k + (if isP T u k = true then 1 else 0) := rfl
    rw [ih, e]
    by_cases c : u k < T 0 1
    · rw [if_pos c, if_pos (show isP T u k = true from decide_eq_true c)]; rfl
    · rw [if_neg c, if_neg (show ¬ isP T u k = true by unfold isP; simpa using c)]; rfl
theorem sV_rich {T : Nat → Nat → Nat} {u : Nat → Nat} (k : Nat) : sV T (wX T true) u k = 10 * (pd T u k : Nat) - (cnt (isP T u) k : Nat) := by
  induction k with
  | zero => rfl
  | succ k ih =>
    simp only [sV]
    have e : cnt (isP T u) (k + 1) = cnt (isP T u) k + (if isP T u k = true then 1 else 0) := rfl
    have e2 : pd T u (k + 1) = pd T u k + (if u k < T 0 1 then T 8 k else 0) := rfl
    rw [ih, e, e2]
    by_cases c : u k < T 0 1
    · rw [if_pos c, if_pos c, if_pos (show isP T u k = true from decide_eq_true c)]
      unfold wX
      rw [if_pos rfl]
      omega
    · rw [if_neg c, if_neg c, if_neg (show ¬ isP T u k = true by unfold isP; simpa using c)]
      omega
theorem worthM {T : Nat → Nat → Nat} {u : Nat → Nat} {z : zkM} (hT : zTb T) (hm : zTm T z.1) (h : ∀ c, c < T 0 2 → z.1 13 c = zOn T (u c)) (b : Bool) : fMd_worth z b = some (iI (sV T (wX T b) u (T 0 2) + off b)) := by
  unfold fMd_worth
  rw [fMd_standing_spec hT hm h, paid_spec hT hm h, k0, k9, k10]
  simp only [zbF, Option.bind_some]
  cases b
  · rw [if_pos rfl, sV_most]; unfold off jN; congr 2
  · rw [if_neg (by decide), sV_rich]
    unfold off jN
    rw [iI_mul, iI_add, iI_sub, if_pos rfl]
    congr 2
    have e10 : ((10 : Nat) : Int) = 10 := rfl
    have e9 : ((9 : Nat) : Int) = 9 := rfl
    rw [e10, e9]; omega
theorem fo_idx {f : Nat → Bool} {v : Nat → Int} {n : Nat} {m : Int} : (fo f v 0 n (m, 0)).2 ≤ n := by
  induction n with
  | zero => exact Nat.le_refl _
  | succ n ih =>
    have e : fo f v 0 (n + 1) (m, 0) = stp f v (fo f v 0 n (m, 0)) (0 + n) := rfl
    rw [e]
    unfold stp
    split
    · show 0 + n ≤ n + 1; omega
    · omega
theorem pw_le {T : Nat → Nat → Nat} (hT : zTb T) : (T 0 1 + 1) ^ T 0 2 ≤ 16807 := by
  have h1 : (T 0 1 + 1) ^ T 0 2 ≤ 7 ^ T 0 2 := Nat.pow_le_pow_left (by have := hT.2.1; omega) _
  have h2 : 7 ^ T 0 2 ≤ 7 ^ 5 := Nat.pow_le_pow_right (by omega) hT.2.2.1
  omega
theorem best39 {T R : Nat → Nat → Nat} {z : zkM} {b : Bool} (hT : zTb T) (hm : zTm T z.1) (hS : zEb T R) (s16 : zEm T R 0 (z.1 16)) : ∃ mem', fMd_bestRow_L39 20000 z b (jN ((T 0 1 + 1) ^ T 0 2)) (jN 0) (iI (-1)) (jN 0) = some (jN (fo (rF T R) (rV T (wX T b)) 0 ((T 0 1 + 1) ^ T 0 2) (-1 - off b, 0)).2, mem') ∧ zG z mem' := by
  have hpw := pw_le hT
  have ho : 0 ≤ off b ∧ off b ≤ 9 := by unfold off; split <;> omega
  have t3 := hT.2.2.1
  generalize hK : (T 0 1 + 1) ^ T 0 2 = K at *
  obtain ⟨q, h1, mem', h2, h3⟩ := zl_loop (fun n (s : zkM × Int32 × Int32 × Int32) => fMd_bestRow_L39 n s.1 b (jN K) s.2.1 s.2.2.1 s.2.2.2) (fun k s => s.2.2.2 = jN k ∧ s.2.1 = jN (fo (rF T R) (rV T (wX T b)) 0 k (-1 - off b, 0)).2 ∧ s.2.2.1 = iI ((fo (rF T R) (rV T (wX T b)) 0 k (-1 - off b, 0)).1 + off b) ∧ zG z s.1) K (fun q => ∃ mem', q = (jN (fo (rF T R) (rV T (wX T b)) 0 K (-1 - off b, 0)).2, mem') ∧ zG z mem') (by
    rintro n k ⟨mem, x3, x4, x5⟩ hk ⟨e1, e2, e3, hg⟩
    dsimp only at e1 e2 e3 hg
    subst e1; subst e2; subst e3
    simp only [fMd_bestRow_L39]
    by_cases c : k = K
    · left
      refine ⟨_, ?_, mem, rfl, hg⟩
      simp (disch := omega) only [zk_let, Option.bind_some, cond_true, cond_false, if_true, if_false, zbF, zbT, within_in, jn9, k0, k1, k2, k3, k4, k5, k6, k7, k8, k9, k10, k12, k16, k17, k20, k29, k30, k31, k32, k36, k40, k41, k42, k48, k57, k59, k60, k64, k98, k99, k100, k112, k128, k200, k255, k256, k378, k420, k999, k1000000, jN_add, jN_mul, jN_clamp, jN_inbT, Bool.false_eq_true, Bool.true_eq_false, jN_le]
      rw [if_pos (by omega), c]
    · right
      refine ⟨by omega, ?_⟩
      obtain ⟨m1, f1, hg1, h13, hl⟩ := laysM (i := k) hT hm hg (by omega)
      have hm1 := hg1.tm hm
      have f2 := worthM hT hm1 h13 b
      have f3 : fMd_holdsAll m1 = some (rF T R k) := holdsAllM hT hm1 hl (fun p _ => by have := ld_le (u := dp T (T 0 2) k) hT (Nat.le_refl _) p; omega) hS (by rw [hg1.1 16 (by omega)]; exact s16)
      have hv := rV_b hT (wX_ok hT b) k
      have e9 : fo (rF T R) (rV T (wX T b)) 0 (k + 1) (-1 - off b, 0) = stp (rF T R) (rV T (wX T b)) (fo (rF T R) (rV T (wX T b)) 0 k (-1 - off b, 0)) k := by
        show stp _ _ _ (0 + k) = _; rw [Nat.zero_add]
      have hb := fo_b (f := rF T R) (v := rV T (wX T b)) (a := 0) (n := k) (st := (-1 - off b, 0)) (fun i => (rV_b hT (wX_ok hT b) i).2) (by show -1 - off b < 1000; omega)
      have hb0 : -1 - off b ≤ (fo (rF T R) (rV T (wX T b)) 0 k (-1 - off b, 0)).1 := hb.1
      have hb1 := hb.2
      rw [e9]
      generalize fo (rF T R) (rV T (wX T b)) 0 k (-1 - off b, 0) = st at *
      have f2' : fMd_worth m1 b = some (iI (rV T (wX T b) k + off b)) := f2
      simp (disch := omega) only [zk_let, Option.bind_some, cond_true, cond_false, if_true, if_false, zbF, zbT, within_in, jn9, k0, k1, k2, k3, k4, k5, k6, k7, k8, k9, k10, k12, k16, k17, k20, k29, k30, k31, k32, k36, k40, k41, k42, k48, k57, k59, k60, k64, k98, k99, k100, k112, k128, k200, k255, k256, k378, k420, k999, k1000000, jN_add, jN_mul, jN_clamp, jN_inbT, Bool.false_eq_true, Bool.true_eq_false, jN_le, f1, f2', f3, iI_le]
      rw [if_neg (by omega)]
      unfold stp
      by_cases c1 : rV T (wX T b) k + off b ≤ st.1 + off b
      · rw [if_pos c1, if_neg (fun h9 => by have := h9.2; omega)]
        exact ⟨(m1, jN st.2, iI (st.1 + off b), jN (k + 1)), rfl, rfl, rfl, rfl, hg1⟩
      · rw [if_neg c1]
        by_cases c2 : rF T R k = true
        · rw [c2, if_neg (show ¬ true = false by decide), if_pos (show true = true ∧ st.1 < rV T (wX T b) k from ⟨rfl, by omega⟩)]
          exact ⟨(m1, jN k, iI (rV T (wX T b) k + off b), jN (k + 1)), rfl, rfl, rfl, rfl, hg1⟩
        · have c3 : rF T R k = false := by simpa using c2
          rw [c3, if_pos (show false = false from rfl), if_neg (show ¬ (false = true ∧ st.1 < rV T (wX T b) k) from fun h9 => by cases h9.1)]
          exact ⟨(m1, jN st.2, iI (st.1 + off b), jN (k + 1)), rfl, rfl, rfl, rfl, hg1⟩) 20000 (z, jN 0, iI (-1), jN 0) ⟨rfl, rfl, by show iI (-1) = iI (-1 - off b + off b); congr 1; omega, ⟨fun _ _ => rfl, rfl⟩⟩ (by omega)
  subst h2
  exact ⟨mem', h1, h3⟩
theorem best8 {T : Nat → Nat → Nat} {z : zkM} (hT : zTb T) (hm : zTm T z.1) : fMd_bestRow_L8 500 z (jN 1) (jN 0) = some (jN ((T 0 1 + 1) ^ T 0 2)) := by
  have t3 := hT.2.2.1
  have := zl_eq (fun n (s : Int32 × Int32) => fMd_bestRow_L8 n z s.1 s.2) (fun k => (jN ((T 0 1 + 1) ^ k), jN k)) (T 0 2) (jN ((T 0 1 + 1) ^ T 0 2)) ?_ ?_ 500 (by omega)
  · dsimp only at this; rw [Nat.pow_zero] at this; exact this
  · intro n k hk
    simp only [fMd_bestRow_L8]
    simp (disch := omega) only [zk_let, Option.bind_some, cond_true, cond_false, if_true, if_false, zbF, zbT, within_in, jn9, k0, k1, k2, k3, k4, k5, k6, k7, k8, k9, k10, k12, k16, k17, k20, k29, k30, k31, k32, k36, k40, k41, k42, k48, k57, k59, k60, k64, k98, k99, k100, k112, k128, k200, k255, k256, k378, k420, k999, k1000000, jN_add, jN_mul, jN_clamp, jN_inbT, Bool.false_eq_true, Bool.true_eq_false, hm.2.1, hm.2.2.1, jN_le]
    rw [if_neg (by omega), ← Nat.pow_succ]
  · intro n
    simp only [fMd_bestRow_L8]
    simp (disch := omega) only [zk_let, Option.bind_some, cond_true, cond_false, if_true, if_false, zbF, zbT, within_in, jn9, k0, k1, k2, k3, k4, k5, k6, k7, k8, k9, k10, k12, k16, k17, k20, k29, k30, k31, k32, k36, k40, k41, k42, k48, k57, k59, k60, k64, k98, k99, k100, k112, k128, k200, k255, k256, k378, k420, k999, k1000000, jN_add, jN_mul, jN_clamp, jN_inbT, Bool.false_eq_true, Bool.true_eq_false, hm.2.2.1, jN_le]
    rw [if_pos (by omega)]
theorem bestM {T R : Nat → Nat → Nat} {y z : zkM} (b : Bool) (hA0 : zAll T R y z) : ∃ z1 z2, fMd_bestRow z b = some (jN (bR9 T R b).2, z1) ∧ fMd_lays z1 (jN (bR9 T R b).2) = some z2 ∧ zKm z z2 ∧ ∀ c, c < T 0 2 → z2.1 13 c = zOn T (dp T (T 0 2) (bR9 T R b).2 c) := by
  obtain ⟨hT, hx, hm, hS, sx, sm', -⟩ := id hA0
  obtain ⟨r, e1, hr, kn⟩ := hA0.ends
  have hm1 : zTm T (zk_row z 16 r).1 := hm.congr rfl rfl rfl rfl rfl rfl
  obtain ⟨z1, e2, hg1⟩ := best39 (R := R) (b := b) hT hm1 hS.2 (by rw [zk_row_on]; exact hr)
  have ho : 0 ≤ off b ∧ off b ≤ 9 := by unfold off; split <;> omega
  have hsim := (fo_sim (f := rF T R) (v := rV T (wX T b)) (a := 0) (n := (T 0 1 + 1) ^ T 0 2) (m1 := -1 - off b) (i1 := 0) (i2 := 0) (by omega)).1 (fo_fin hT)
  have hb9 : bR9 T R b = fo (rF T R) (rV T (wX T b)) 0 ((T 0 1 + 1) ^ T 0 2) (-1 - off b, 0) := hsim
  rw [← hb9] at e2
  have hi : (bR9 T R b).2 < 100000 := by
    have h1 := fo_idx (f := rF T R) (v := rV T (wX T b)) (n := (T 0 1 + 1) ^ T 0 2) (m := -1)
    have h2 := pw_le hT
    unfold bR9; omega
  obtain ⟨z2, e3, hg2, h13, -⟩ := laysM hT hm1 hg1 hi
  refine ⟨z1, z2, ?_, e3, kn.tr hg2.km, h13⟩
  unfold fMd_bestRow
  rw [e1]
  simp only [Option.bind_some, k0, k1]
  rw [best8 hT hm1]
  simp only [Option.bind_some]
  have e4 : fMd_bestRow_L39 20000 (zk_row z 16 r) b (jN ((T 0 1 + 1) ^ T 0 2)) (jN 0) (-jN 1) (jN 0) = some (jN (bR9 T R b).2, z1) := e2
  rw [e4]
  rfl
theorem pr_most {y z : zkM} (h : zRel y z) (a1 : Int32) : ∃ v y' z', sX_most y a1 v y' ∧ sM_most z a1 v z' ∧ zRel y' z' := by
  obtain ⟨T, R, hA0⟩ := h.all
  obtain ⟨hT, hx, hm, hS, sx, sm', -⟩ := id hA0
  have t2 := hT.2.1
  have t3 := hT.2.2.1
  obtain ⟨r, e1, h34⟩ := seek34M hT hx
  obtain ⟨y1, e2, hfr, h37⟩ := seekX (R := R) (b := false) hT hx hS.2 sx h34
  obtain ⟨z1, z2, e3, e4, km, h13⟩ := bestM false hA0
  have hx1 := hfr.tx hx
  have hAf : zAll T R y1 z2 := hA0.same hfr.kx km
  obtain ⟨-, -, hm2, -⟩ := id hAf
  have hsk : fPlanner_seekMost y = some y1 := by
    unfold fPlanner_seekMost
    rw [k0, e1]
    simp only [Option.bind_some, e2]
  have hX := fPlanner_howMany_spec hT hx1 h37
  have hM := fMd_standing_spec hT hm2 h13
  unfold sX_most sM_most fTp_most fMd_most fMd_tells fTp_isChild fMd_isChild fPlanner_placeOf
  simp only [within_in, hx.2.2.1, hm.2.2.1, zbF, k0, k1, k2, k3, k4, k5, k6, k7, k8, k9, k10, k12, k16, k17, k20, k29, k30, k31, k32, k36, k40, k41, k42, k48, k57, k59, k60, k64, k98, k99, k100, k112, k128, k200, k255, k256, k378, k420, k999, k1000000, hsk, e3, e4, Option.bind_some, jn9, hX, hM]
  by_cases c9 : a1 = jNo
  · simp only [c9, if_true]
    refine ⟨_, y1, z2, rfl, ?_, hAf.rel⟩
    first
      | rfl
      | (rw [if_neg (by decide)]; rfl)
  · simp only [c9, if_false]
    rcases in_lt a1 (K := T 0 2) (by omega) with ⟨hw, c, hc, rfl⟩ | ⟨hw, -⟩
    · simp only [hw, Bool.true_eq_false, if_false]
      simp (disch := omega) only [zk_let, Option.bind_some, cond_true, cond_false, if_true, if_false, zbF, zbT, within_in, jn9, k0, k1, k2, k3, k4, k5, k6, k7, k8, k9, k10, k12, k16, k17, k20, k29, k30, k31, k32, k36, k40, k41, k42, k48, k57, k59, k60, k64, k98, k99, k100, k112, k128, k200, k255, k256, k378, k420, k999, k1000000, jN_add, jN_mul, jN_clamp, jN_inbT, Bool.false_eq_true, Bool.true_eq_false, h37 c hc, h13 c hc]
      refine ⟨if zOn T (dp T (T 0 2) (bR9 T R false).2 c) = jNo then -jN 5 else zOn T (dp T (T 0 2) (bR9 T R false).2 c), y1, z2, ?_, ?_, hAf.rel⟩
      · split <;> rfl
      · split <;> rfl
    · exact ⟨-jN 1, y, z, by simp [hw], by simp [hw], h⟩
theorem pr_richest {y z : zkM} (h : zRel y z) (a1 : Int32) : ∃ v y' z', sX_richest y a1 v y' ∧ sM_richest z a1 v z' ∧ zRel y' z' := by
  obtain ⟨T, R, hA0⟩ := h.all
  obtain ⟨hT, hx, hm, hS, sx, sm', -⟩ := id hA0
  have t2 := hT.2.1
  have t3 := hT.2.2.1
  obtain ⟨r, e1, h34⟩ := seek34R hT hx
  obtain ⟨y1, e2, hfr, h37⟩ := seekX (R := R) (b := true) hT hx hS.2 sx h34
  obtain ⟨z1, z2, e3, e4, km, h13⟩ := bestM true hA0
  have hx1 := hfr.tx hx
  have hAf : zAll T R y1 z2 := hA0.same hfr.kx km
  obtain ⟨-, -, hm2, -⟩ := id hAf
  have hsk : fPlanner_seekRichest y = some y1 := by
    unfold fPlanner_seekRichest
    rw [k0, e1]
    simp only [Option.bind_some, e2]
  have hX := howMuch_spec hT hx1 h37
  have hM := paid_spec hT hm2 h13
  unfold sX_richest sM_richest fTp_richest fMd_richest fMd_tells fTp_isChild fMd_isChild fPlanner_placeOf
  simp only [within_in, hx.2.2.1, hm.2.2.1, zbF, k0, k1, k2, k3, k4, k5, k6, k7, k8, k9, k10, k12, k16, k17, k20, k29, k30, k31, k32, k36, k40, k41, k42, k48, k57, k59, k60, k64, k98, k99, k100, k112, k128, k200, k255, k256, k378, k420, k999, k1000000, hsk, e3, e4, Option.bind_some, jn9, hX, hM]
  by_cases c9 : a1 = jNo
  · simp only [c9, if_true]
    refine ⟨_, y1, z2, rfl, ?_, hAf.rel⟩
    first
      | rfl
      | (rw [if_neg (by decide)]; rfl)
  · simp only [c9, if_false]
    rcases in_lt a1 (K := T 0 2) (by omega) with ⟨hw, c, hc, rfl⟩ | ⟨hw, -⟩
    · simp only [hw, Bool.true_eq_false, if_false]
      simp (disch := omega) only [zk_let, Option.bind_some, cond_true, cond_false, if_true, if_false, zbF, zbT, within_in, jn9, k0, k1, k2, k3, k4, k5, k6, k7, k8, k9, k10, k12, k16, k17, k20, k29, k30, k31, k32, k36, k40, k41, k42, k48, k57, k59, k60, k64, k98, k99, k100, k112, k128, k200, k255, k256, k378, k420, k999, k1000000, jN_add, jN_mul, jN_clamp, jN_inbT, Bool.false_eq_true, Bool.true_eq_false, h37 c hc, h13 c hc]
      refine ⟨if zOn T (dp T (T 0 2) (bR9 T R true).2 c) = jNo then -jN 5 else zOn T (dp T (T 0 2) (bR9 T R true).2 c), y1, z2, ?_, ?_, hAf.rel⟩
      · split <;> rfl
      · split <;> rfl
    · exact ⟨-jN 1, y, z, by simp [hw], by simp [hw], h⟩
