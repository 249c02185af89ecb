/-! odds: longs, rows of longs -/
def jL (n : Nat) : Int64 := Int64.ofInt (n : Int)
theorem jL_add (a b : Nat) : jL a + jL b = jL (a + b) := by unfold jL; rw [← Int64.ofInt_add]; congr 1
theorem jL_mul (a b : Nat) : jL a * jL b = jL (a * b) := by unfold jL; rw [← Int64.ofInt_mul]; congr 1
theorem jL_sub {a b : Nat} (h : b ≤ a) : jL a - jL b = jL (a - b) := by unfold jL; rw [← Int64.ofInt_sub]; congr 1; omega
theorem jL_toInt {n : Nat} (h : n < 1000000000) : (jL n).toInt = n := Int64.toInt_ofInt_of_le (by omega) (by omega)
theorem jL_eq {a b : Nat} (h1 : a < 1000000000) (h2 : b < 1000000000) : jL a = jL b ↔ a = b := by rw [← Int64.toInt_inj, jL_toInt h1, jL_toInt h2]; omega
theorem jL_div {a b : Nat} (h1 : a < 1000000000) (h2 : b < 1000000000) : jL a / jL b = jL (a / b) := by
  apply Int64.toInt_inj.mp
  have h3 : a / b ≤ a := Nat.div_le_self a b
  rw [Int64.toInt_div_of_ne_left, jL_toInt h1, jL_toInt h2, jL_toInt (by omega)]
  · rfl
  · intro e
    have := congrArg Int64.toInt e
    rw [jL_toInt h1] at this
    have h9 : Int64.minValue.toInt = -9223372036854775808 := by decide
    omega
theorem l0 : (0 : Int64) = jL 0 := by decide
theorem l1 : (1 : Int64) = jL 1 := by decide
theorem l6 : (6 : Int64) = jL 6 := by decide
theorem lg_0 {a : Nat} (h : a < 1000000000) : lg_cmp (jL a) (jL 0) = if a = 0 then jN 0 else jN 1 := by
  unfold lg_cmp
  have e1 : (jL a > jL 0) ↔ 0 < a := by show jL 0 < jL a ↔ _; rw [Int64.lt_iff_toInt_lt, jL_toInt h, jL_toInt (by omega)]; omega
  simp only [e1, jL_eq h (show 0 < 1000000000 by omega)]
  by_cases c : a = 0
  · subst c; decide
  · rw [if_pos (by omega), if_neg c]; decide
def zk_rl (mem : zkM) (c : Nat) (r : Nat → Int64) : zkM := (mem.1, fun a b => if a = c then r b else mem.2 a b)
theorem zk_rl_on {mem : zkM} {c : Nat} {r : Nat → Int64} : (zk_rl mem c r).2 c = r := by funext b; simp [zk_rl]
theorem zk_rl_off {mem : zkM} {c a : Nat} {r : Nat → Int64} (h : a ≠ c) : (zk_rl mem c r).2 a = mem.2 a := by funext b; simp [zk_rl, h]
theorem zk_rl_self {mem : zkM} {c : Nat} : zk_rl mem c (mem.2 c) = mem := by
  apply Prod.ext
  · rfl
  · funext a b; simp only [zk_rl]; by_cases h : a = c <;> simp [h]
theorem zk_rl_rl {mem : zkM} {c : Nat} {r r2 : Nat → Int64} : zk_rl (zk_rl mem c r) c r2 = zk_rl mem c r2 := by
  apply Prod.ext
  · rfl
  · funext a b; simp only [zk_rl]; by_cases h : a = c <;> simp [h]
theorem zk_rl_aba {y : zkM} {a b : Nat} {A B C : Nat → Int64} : zk_rl (zk_rl (zk_rl y a A) b B) a C = zk_rl (zk_rl y b B) a C := by
  apply Prod.ext
  · rfl
  · funext x i; simp only [zk_rl]; by_cases h1 : x = b <;> by_cases h2 : x = a <;> simp [h1, h2]
theorem zk_rl_comm {y : zkM} {a b : Nat} {A B : Nat → Int64} (h : a ≠ b) : zk_rl (zk_rl y a A) b B = zk_rl (zk_rl y b B) a A := by
  apply Prod.ext
  · rfl
  · funext x i; simp only [zk_rl]; by_cases h1 : x = b <;> by_cases h2 : x = a <;> simp [h1, h2] <;> omega
theorem zk_ul_rl {mem : zkM} {c i : Nat} {x : Int64} : zk_ul mem c i x = zk_rl mem c (vp_updL (mem.2 c) i x) := by
  apply Prod.ext
  · rfl
  · funext a b; simp only [zk_rl, zk_ul, vp_updL]; by_cases h : a = c <;> simp [h]
theorem updL_same {f : Nat → Int64} {i : Nat} {x : Int64} : vp_updL f i x i = x := by simp [vp_updL]
theorem updL_ne {f : Nat → Int64} {i j : Nat} {x : Int64} (h : j ≠ i) : vp_updL f i x j = f j := by simp [vp_updL, h]
theorem zKx.rl {y : zkM} {k : Nat} {r : Nat → Int64} (h : k ≠ 0) : zKx y (zk_rl y k r) := ⟨fun _ _ => rfl, rfl, rfl, rfl, rfl, by rw [zk_rl_off (fun e => h e.symm)]⟩
theorem zKm.rl {y : zkM} {k : Nat} {r : Nat → Int64} (h : k ≠ 0) : zKm y (zk_rl y k r) := ⟨fun _ _ => rfl, rfl, rfl, rfl, rfl, rfl, rfl, by rw [zk_rl_off (fun e => h e.symm)]⟩
/-! GALES by chance, as numbers of ways -/
def ind (w i : Nat) : Nat := if i = w then 1 else 0
/-- what comes to WEAR w by the first j forces -/
def fr (k d : Nat) (A : Nat → Nat) (j w : Nat) : Nat := sm (fun i => if gw k d (i + 1) ≤ w then A (w - gw k d (i + 1)) else 0) j
def nA (k d : Nat) (A : Nat → Nat) (w : Nat) : Nat := if w < zGv k then fr k d A 6 w else 0
def aN (k d w : Nat) : Nat → Nat → Nat
  | 0 => ind w
  | n + 1 => nA k d (aN k d w n)
theorem fChance_waysToStay_L24_i {y : zkM} {w : Nat} (hw : w < 1000) : ∃ r, fChance_waysToStay_L24 500 y (jN w) (jN 0) = some (zk_rl y 42 r) ∧ ∀ i, i < 36 → r i = jL (ind w i) := by
  obtain ⟨q, h1, r, h2, h3⟩ := zl_loop (fun n (s : zkM × Int32) => fChance_waysToStay_L24 n s.1 (jN w) s.2) (fun k s => s.2 = jN k ∧ ∃ r, s.1 = zk_rl y 42 r ∧ ∀ i, i < k → r i = jL (ind w i)) 36 (fun q => ∃ r, q = zk_rl y 42 r ∧ ∀ i, i < 36 → r i = jL (ind w i)) (by
    rintro n k ⟨m, x⟩ hk ⟨e1, r, e2, hr⟩
    dsimp only at e1 e2
    subst e1; subst e2
    simp only [fChance_waysToStay_L24]
    by_cases c : k = 36
    · left
      refine ⟨_, ?_, r, rfl, fun i hi => hr i (by omega)⟩
      simp (disch := omega) only [zk_let, Option.bind_some, cond_true, cond_false, if_true, if_false, zbF, zbT, within_in, jn9, k0, k1, k2, k3, k4, k5, k6, k7, k8, k9, k10, k12, k16, k17, k20, k29, k30, k31, k32, k36, k40, k41, k42, k48, k57, k59, k60, k64, k98, k99, k100, k112, k128, k200, k255, k256, k378, k420, k999, k1000000, jN_add, jN_mul, jN_clamp, jN_inbT, Bool.false_eq_true, Bool.true_eq_false, jN_le]
      rw [if_pos (by omega)]
    · right
      refine ⟨by omega, (zk_rl y 42 (vp_updL r k (jL (ind w k))), jN (k + 1)), ?_, rfl, _, rfl, fun i hi => ?_⟩
      · simp (disch := omega) only [zk_let, Option.bind_some, cond_true, cond_false, if_true, if_false, zbF, zbT, within_in, jn9, k0, k1, k2, k3, k4, k5, k6, k7, k8, k9, k10, k12, k16, k17, k20, k29, k30, k31, k32, k36, k40, k41, k42, k48, k57, k59, k60, k64, k98, k99, k100, k112, k128, k200, k255, k256, k378, k420, k999, k1000000, jN_add, jN_mul, jN_clamp, jN_inbT, Bool.false_eq_true, Bool.true_eq_false, jN_le, jN_eq, zk_ul_rl, zk_rl_rl, zk_rl_on]
        rw [if_neg (by omega)]
        by_cases c0 : k = w
        · rw [if_pos c0, l1, show ind w k = 1 from if_pos c0]
        · rw [if_neg c0, l0, show ind w k = 0 from if_neg c0]
      · by_cases c2 : i = k
        · rw [c2, updL_same]
        · rw [updL_ne c2]; exact hr i (by omega)) 500 (y, jN 0) ⟨rfl, y.2 42, zk_rl_self.symm, fun i h => by omega⟩ (by omega)
  subst h2
  exact ⟨r, h1, h3⟩
theorem fMd_stays_L3_i {y : zkM} {w : Nat} (hw : w < 1000) : ∃ r, fMd_stays_L3 500 y (jN w) (jN 0) = some (zk_rl y 17 r) ∧ ∀ i, i < 64 → r i = jL (ind w i) := by
  obtain ⟨q, h1, r, h2, h3⟩ := zl_loop (fun n (s : zkM × Int32) => fMd_stays_L3 n s.1 (jN w) s.2) (fun k s => s.2 = jN k ∧ ∃ r, s.1 = zk_rl y 17 r ∧ ∀ i, i < k → r i = jL (ind w i)) 64 (fun q => ∃ r, q = zk_rl y 17 r ∧ ∀ i, i < 64 → r i = jL (ind w i)) (by
    rintro n k ⟨m, x⟩ hk ⟨e1, r, e2, hr⟩
    dsimp only at e1 e2
    subst e1; subst e2
    simp only [fMd_stays_L3]
    by_cases c : k = 64
    · left
      refine ⟨_, ?_, r, rfl, fun i hi => hr i (by omega)⟩
      simp (disch := omega) only [zk_let, Option.bind_some, cond_true, cond_false, if_true, if_false, zbF, zbT, within_in, jn9, k0, k1, k2, k3, k4, k5, k6, k7, k8, k9, k10, k12, k16, k17, k20, k29, k30, k31, k32, k36, k40, k41, k42, k48, k57, k59, k60, k64, k98, k99, k100, k112, k128, k200, k255, k256, k378, k420, k999, k1000000, jN_add, jN_mul, jN_clamp, jN_inbT, Bool.false_eq_true, Bool.true_eq_false, jN_le]
      rw [if_pos (by omega)]
    · right
      refine ⟨by omega, (zk_rl y 17 (vp_updL r k (jL (ind w k))), jN (k + 1)), ?_, rfl, _, rfl, fun i hi => ?_⟩
      · simp (disch := omega) only [zk_let, Option.bind_some, cond_true, cond_false, if_true, if_false, zbF, zbT, within_in, jn9, k0, k1, k2, k3, k4, k5, k6, k7, k8, k9, k10, k12, k16, k17, k20, k29, k30, k31, k32, k36, k40, k41, k42, k48, k57, k59, k60, k64, k98, k99, k100, k112, k128, k200, k255, k256, k378, k420, k999, k1000000, jN_add, jN_mul, jN_clamp, jN_inbT, Bool.false_eq_true, Bool.true_eq_false, jN_le, jN_eq, zk_ul_rl, zk_rl_rl, zk_rl_on]
        rw [if_neg (by omega)]
        by_cases c0 : k = w
        · rw [if_pos c0, l1, show ind w k = 1 from if_pos c0]
        · rw [if_neg c0, l0, show ind w k = 0 from if_neg c0]
      · by_cases c2 : i = k
        · rw [c2, updL_same]
        · rw [updL_ne c2]; exact hr i (by omega)) 500 (y, jN 0) ⟨rfl, y.2 17, zk_rl_self.symm, fun i h => by omega⟩ (by omega)
  subst h2
  exact ⟨r, h1, h3⟩
theorem fChance_blowOnce_L3_z {y : zkM} : ∃ r, fChance_blowOnce_L3 500 y (jN 0) = some (zk_rl y 43 r) ∧ ∀ i, i < 36 → r i = jL 0 := by
  obtain ⟨q, h1, r, h2, h3⟩ := zl_loop (fun n (s : zkM × Int32) => fChance_blowOnce_L3 n s.1 s.2) (fun k s => s.2 = jN k ∧ ∃ r, s.1 = zk_rl y 43 r ∧ ∀ i, i < k → r i = jL 0) 36 (fun q => ∃ r, q = zk_rl y 43 r ∧ ∀ i, i < 36 → r i = jL 0) (by
    rintro n k ⟨m, x⟩ hk ⟨e1, r, e2, hr⟩
    dsimp only at e1 e2
    subst e1; subst e2
    simp only [fChance_blowOnce_L3]
    by_cases c : k = 36
    · left
      refine ⟨_, ?_, r, rfl, fun i hi => hr i (by omega)⟩
      simp (disch := omega) only [zk_let, Option.bind_some, cond_true, cond_false, if_true, if_false, zbF, zbT, within_in, jn9, k0, k1, k2, k3, k4, k5, k6, k7, k8, k9, k10, k12, k16, k17, k20, k29, k30, k31, k32, k36, k40, k41, k42, k48, k57, k59, k60, k64, k98, k99, k100, k112, k128, k200, k255, k256, k378, k420, k999, k1000000, jN_add, jN_mul, jN_clamp, jN_inbT, Bool.false_eq_true, Bool.true_eq_false, jN_le]
      rw [if_pos (by omega)]
    · right
      refine ⟨by omega, (zk_rl y 43 (vp_updL r k (jL 0)), jN (k + 1)), ?_, rfl, _, rfl, fun i hi => ?_⟩
      · simp (disch := omega) only [zk_let, Option.bind_some, cond_true, cond_false, if_true, if_false, zbF, zbT, within_in, jn9, k0, k1, k2, k3, k4, k5, k6, k7, k8, k9, k10, k12, k16, k17, k20, k29, k30, k31, k32, k36, k40, k41, k42, k48, k57, k59, k60, k64, k98, k99, k100, k112, k128, k200, k255, k256, k378, k420, k999, k1000000, jN_add, jN_mul, jN_clamp, jN_inbT, Bool.false_eq_true, Bool.true_eq_false, jN_le, l0, zk_ul_rl, zk_rl_rl, zk_rl_on]
        rw [if_neg (by omega)]
      · by_cases c2 : i = k
        · rw [c2, updL_same]
        · rw [updL_ne c2]; exact hr i (by omega)) 500 (y, jN 0) ⟨rfl, y.2 43, zk_rl_self.symm, fun i h => by omega⟩ (by omega)
  subst h2
  exact ⟨r, h1, h3⟩
theorem fMd_stays_L47_z {y : zkM} : ∃ r, fMd_stays_L47 500 y (jN 0) = some (zk_rl y 18 r) ∧ ∀ i, i < 64 → r i = jL 0 := by
  obtain ⟨q, h1, r, h2, h3⟩ := zl_loop (fun n (s : zkM × Int32) => fMd_stays_L47 n s.1 s.2) (fun k s => s.2 = jN k ∧ ∃ r, s.1 = zk_rl y 18 r ∧ ∀ i, i < k → r i = jL 0) 64 (fun q => ∃ r, q = zk_rl y 18 r ∧ ∀ i, i < 64 → r i = jL 0) (by
    rintro n k ⟨m, x⟩ hk ⟨e1, r, e2, hr⟩
    dsimp only at e1 e2
    subst e1; subst e2
    simp only [fMd_stays_L47]
    by_cases c : k = 64
    · left
      refine ⟨_, ?_, r, rfl, fun i hi => hr i (by omega)⟩
      simp (disch := omega) only [zk_let, Option.bind_some, cond_true, cond_false, if_true, if_false, zbF, zbT, within_in, jn9, k0, k1, k2, k3, k4, k5, k6, k7, k8, k9, k10, k12, k16, k17, k20, k29, k30, k31, k32, k36, k40, k41, k42, k48, k57, k59, k60, k64, k98, k99, k100, k112, k128, k200, k255, k256, k378, k420, k999, k1000000, jN_add, jN_mul, jN_clamp, jN_inbT, Bool.false_eq_true, Bool.true_eq_false, jN_le]
      rw [if_pos (by omega)]
    · right
      refine ⟨by omega, (zk_rl y 18 (vp_updL r k (jL 0)), jN (k + 1)), ?_, rfl, _, rfl, fun i hi => ?_⟩
      · simp (disch := omega) only [zk_let, Option.bind_some, cond_true, cond_false, if_true, if_false, zbF, zbT, within_in, jn9, k0, k1, k2, k3, k4, k5, k6, k7, k8, k9, k10, k12, k16, k17, k20, k29, k30, k31, k32, k36, k40, k41, k42, k48, k57, k59, k60, k64, k98, k99, k100, k112, k128, k200, k255, k256, k378, k420, k999, k1000000, jN_add, jN_mul, jN_clamp, jN_inbT, Bool.false_eq_true, Bool.true_eq_false, jN_le, l0, zk_ul_rl, zk_rl_rl, zk_rl_on]
        rw [if_neg (by omega)]
      · by_cases c2 : i = k
        · rw [c2, updL_same]
        · rw [updL_ne c2]; exact hr i (by omega)) 500 (y, jN 0) ⟨rfl, y.2 18, zk_rl_self.symm, fun i h => by omega⟩ (by omega)
  subst h2
  exact ⟨r, h1, h3⟩
theorem once46 {y : zkM} {a b : Nat → Int64} {A B : Nat → Nat} {lim mo : Nat} (hl : lim ≤ 36) (hmo : mo < 1000) (ha : ∀ w, w < lim → a w = jL (A w)) (hb : ∀ w, w < lim → b w = jL (B w)) : ∃ b', fChance_blowOnce_L46 500 (zk_rl (zk_rl y 42 a) 43 b) (jN lim) (jN mo) (jN 0) = some (zk_rl (zk_rl y 42 a) 43 b') ∧ ∀ w, w < lim → b' w = jL (B w + (if mo ≤ w then A (w - mo) else 0)) := by
  obtain ⟨q, h1, b', h2, h3⟩ := zl_loop (fun n (s : zkM × Int32) => fChance_blowOnce_L46 n s.1 (jN lim) (jN mo) s.2) (fun j s => s.2 = jN j ∧ ∃ b', s.1 = zk_rl (zk_rl y 42 a) 43 b' ∧ ∀ w, w < lim → b' w = jL (B w + (if mo ≤ w ∧ w - mo < j then A (w - mo) else 0))) (lim - mo) (fun q => ∃ b', q = zk_rl (zk_rl y 42 a) 43 b' ∧ ∀ w, w < lim → b' w = jL (B w + (if mo ≤ w then A (w - mo) else 0))) (by
    rintro n j ⟨m, x⟩ hj ⟨e1, b', e2, hr⟩
    dsimp only at e1 e2
    subst e1; subst e2
    simp only [fChance_blowOnce_L46]
    by_cases c : j = lim - mo
    · left
      refine ⟨_, ?_, b', rfl, fun w hw => ?_⟩
      · simp (disch := omega) only [zk_let, Option.bind_some, cond_true, cond_false, if_true, if_false, zbF, zbT, within_in, jn9, k0, k1, k2, k3, k4, k5, k6, k7, k8, k9, k10, k12, k16, k17, k20, k29, k30, k31, k32, k36, k40, k41, k42, k48, k57, k59, k60, k64, k98, k99, k100, k112, k128, k200, k255, k256, k378, k420, k999, k1000000, jN_add, jN_mul, jN_clamp, jN_inbT, Bool.false_eq_true, Bool.true_eq_false, jN_le]
        rw [if_pos (by omega)]
      · rw [hr w hw]
        by_cases c2 : mo ≤ w
        · rw [if_pos (by omega), if_pos c2]
        · rw [if_neg (by omega), if_neg c2]
    · right
      refine ⟨by omega, (zk_rl (zk_rl y 42 a) 43 (vp_updL b' (j + mo) (jL (B (j + mo) + A j))), jN (j + 1)), ?_, rfl, _, rfl, fun w hw => ?_⟩
      · have e42 : (zk_rl (zk_rl y 42 a) 43 b').2 42 = a := by rw [zk_rl_off (by omega), zk_rl_on]
        have e9 : b' (j + mo) = jL (B (j + mo)) := by rw [hr _ (by omega), if_neg (by omega), Nat.add_zero]
        simp (disch := omega) only [zk_let, Option.bind_some, cond_true, cond_false, if_true, if_false, zbF, zbT, within_in, jn9, k0, k1, k2, k3, k4, k5, k6, k7, k8, k9, k10, k12, k16, k17, k20, k29, k30, k31, k32, k36, k40, k41, k42, k48, k57, k59, k60, k64, k98, k99, k100, k112, k128, k200, k255, k256, k378, k420, k999, k1000000, jN_add, jN_mul, jN_clamp, jN_inbT, Bool.false_eq_true, Bool.true_eq_false, jN_le, zk_ul_rl, zk_rl_rl, zk_rl_on, e42, e9, ha j (by omega), jL_add]
        rw [if_neg (by omega)]
      · by_cases c2 : w = j + mo
        · rw [c2, updL_same, if_pos (by omega), Nat.add_sub_cancel]
        · rw [updL_ne c2, hr w hw]
          by_cases c3 : mo ≤ w ∧ w - mo < j
          · rw [if_pos c3, if_pos (by omega)]
          · rw [if_neg c3, if_neg (by omega)]) 500 (zk_rl (zk_rl y 42 a) 43 b, jN 0) ⟨rfl, b, rfl, fun w hw => by rw [if_neg (by omega), Nat.add_zero]; exact hb w hw⟩ (by omega)
  subst h2
  exact ⟨b', h1, h3⟩
theorem once27 {y : zkM} {a b : Nat → Int64} {A : Nat → Nat} {k d lim : Nat} (hk : k < 4) (hd : d < 4) (hl : lim ≤ 36) (ha : ∀ w, w < lim → a w = jL (A w)) (hb : ∀ w, w < lim → b w = jL 0) : ∃ b', fChance_blowOnce_L27 500 (zk_rl (zk_rl y 42 a) 43 b) (jN k) (jN d) (jN lim) (jN 1) = some (zk_rl (zk_rl y 42 a) 43 b') ∧ ∀ w, w < lim → b' w = jL (fr k d A 6 w) := by
  obtain ⟨q, h1, b', h2, h3⟩ := zl_loop (fun n (s : zkM × Int32) => fChance_blowOnce_L27 n s.1 (jN k) (jN d) (jN lim) s.2) (fun j s => s.2 = jN (j + 1) ∧ ∃ b', s.1 = zk_rl (zk_rl y 42 a) 43 b' ∧ ∀ w, w < lim → b' w = jL (fr k d A j w)) 6 (fun q => ∃ b', q = zk_rl (zk_rl y 42 a) 43 b' ∧ ∀ w, w < lim → b' w = jL (fr k d A 6 w)) (by
    rintro n j ⟨m, x⟩ hj ⟨e1, b', e2, hr⟩
    dsimp only at e1 e2
    subst e1; subst e2
    simp only [fChance_blowOnce_L27]
    by_cases c : j = 6
    · left
      subst c
      refine ⟨_, ?_, b', rfl, hr⟩
      simp (disch := omega) only [zk_let, Option.bind_some, cond_true, cond_false, if_true, if_false, zbF, zbT, within_in, jn9, k0, k1, k2, k3, k4, k5, k6, k7, k8, k9, k10, k12, k16, k17, k20, k29, k30, k31, k32, k36, k40, k41, k42, k48, k57, k59, k60, k64, k98, k99, k100, k112, k128, k200, k255, k256, k378, k420, k999, k1000000, jN_add, jN_mul, jN_clamp, jN_inbT, Bool.false_eq_true, Bool.true_eq_false, jN_lt]
      rfl
    · right
      have hg := gw_all k hk d hd (j + 1) (by omega)
      obtain ⟨b2, e3, h3⟩ := once46 (y := y) (a := a) (b := b') (mo := gw k d (j + 1)) hl (by omega) ha hr
      refine ⟨by omega, (zk_rl (zk_rl y 42 a) 43 b2, jN (j + 1 + 1)), ?_, rfl, b2, rfl, h3⟩
      simp (disch := omega) only [zk_let, Option.bind_some, cond_true, cond_false, if_true, if_false, zbF, zbT, within_in, jn9, k0, k1, k2, k3, k4, k5, k6, k7, k8, k9, k10, k12, k16, k17, k20, k29, k30, k31, k32, k36, k40, k41, k42, k48, k57, k59, k60, k64, k98, k99, k100, k112, k128, k200, k255, k256, k378, k420, k999, k1000000, jN_add, jN_mul, jN_clamp, jN_inbT, Bool.false_eq_true, Bool.true_eq_false, jN_lt, hg.1, e3]
      rw [if_neg (by omega)]) 500 (zk_rl (zk_rl y 42 a) 43 b, jN 1) ⟨rfl, b, rfl, hb⟩ (by omega)
  subst h2
  exact ⟨b', h1, h3⟩
theorem onceX {y : zkM} {a b : Nat → Int64} {A : Nat → Nat} {k d : Nat} (hk : k < 4) (hd : d < 4) (ha : ∀ w, w < zGv k → a w = jL (A w)) : ∃ a' b', fChance_blowOnce (zk_rl (zk_rl y 42 a) 43 b) (jN k) (jN d) (jN (zGv k)) = some (zk_rl (zk_rl y 42 a') 43 b') ∧ ∀ w, w < zGv k → a' w = jL (nA k d A w) := by
  have hv := (gv_all k hk).2.2
  obtain ⟨b1, e1, h1⟩ := fChance_blowOnce_L3_z (y := zk_rl (zk_rl y 42 a) 43 b)
  rw [zk_rl_rl] at e1
  obtain ⟨b2, e2, h2⟩ := once27 (y := y) (a := a) (b := b1) hk hd hv ha (fun w hw => h1 w (by omega))
  refine ⟨fun w => if w < 36 then b2 w else a w, b2, ?_, fun w hw => ?_⟩
  · unfold fChance_blowOnce
    rw [k0, k1, e1]
    simp only [Option.bind_some, e2, zk_let]
    congr 1
    apply Prod.ext
    · rfl
    · funext x i
      simp only [zk_cpl, zk_rl]
      by_cases c1 : x = 42
      · subst c1; simp
      · simp [c1]
  · dsimp only
    rw [if_pos (by omega), h2 w hw]
    unfold nA
    rw [if_pos hw]
theorem waysX {y : zkM} {k d w n : Nat} (hk : k < 4) (h0 : k ≠ 0) (hd : d < 4) (hw : w < 1000) (hn : n ≤ 6) : ∃ a b, fChance_waysToStay y (jN k) (jN w) (jN d) (jN n) = some (jL (sm (aN k d w n) (zGv k)), zk_rl (zk_rl y 42 a) 43 b) := by
  have hv := (gv_all k hk).2.2
  obtain ⟨r, e1, h1⟩ := fChance_waysToStay_L24_i (y := y) hw
  have hmin : zk_min (fTp_givesAt (jN k)) (jN 36) = jN (zGv k) := by
    rw [(gv_all k hk).2.1, if_neg h0]
    unfold zk_min
    exact if_neg (by rw [jN_lt (by omega) (by omega)]; omega)
  obtain ⟨q, e2, a, b, e3, h3⟩ := zl_loop (fun m (s : zkM × Int32) => fChance_waysToStay_L58 m s.1 (jN k) (jN d) (jN n) (jN (zGv k)) s.2) (fun j s => s.2 = jN j ∧ ∃ a b, s.1 = zk_rl (zk_rl y 42 a) 43 b ∧ ∀ i, i < zGv k → a i = jL (aN k d w j i)) n (fun q => ∃ a b, q = zk_rl (zk_rl y 42 a) 43 b ∧ ∀ i, i < zGv k → a i = jL (aN k d w n i)) (by
    rintro m j ⟨s, x⟩ hj ⟨f1, a, b, f2, hr⟩
    dsimp only at f1 f2
    subst f1; subst f2
    simp only [fChance_waysToStay_L58]
    by_cases c : j = n
    · left
      refine ⟨_, ?_, a, b, rfl, c ▸ hr⟩
      simp (disch := omega) only [zk_let, Option.bind_some, cond_true, cond_false, if_true, if_false, zbF, zbT, within_in, jn9, k0, k1, k2, k3, k4, k5, k6, k7, k8, k9, k10, k12, k16, k17, k20, k29, k30, k31, k32, k36, k40, k41, k42, k48, k57, k59, k60, k64, k98, k99, k100, k112, k128, k200, k255, k256, k378, k420, k999, k1000000, jN_add, jN_mul, jN_clamp, jN_inbT, Bool.false_eq_true, Bool.true_eq_false, jN_le]
      rw [if_pos (by omega)]
    · right
      obtain ⟨a', b', f3, hr'⟩ := onceX (y := y) (a := a) (b := b) hk hd hr
      refine ⟨by omega, (zk_rl (zk_rl y 42 a') 43 b', jN (j + 1)), ?_, rfl, a', b', rfl, hr'⟩
      simp (disch := omega) only [zk_let, Option.bind_some, cond_true, cond_false, if_true, if_false, zbF, zbT, within_in, jn9, k0, k1, k2, k3, k4, k5, k6, k7, k8, k9, k10, k12, k16, k17, k20, k29, k30, k31, k32, k36, k40, k41, k42, k48, k57, k59, k60, k64, k98, k99, k100, k112, k128, k200, k255, k256, k378, k420, k999, k1000000, jN_add, jN_mul, jN_clamp, jN_inbT, Bool.false_eq_true, Bool.true_eq_false, jN_le, f3]
      rw [if_neg (by omega)]) 500 (zk_rl y 42 r, jN 0) ⟨rfl, r, y.2 43, by
        have : zk_rl (zk_rl y 42 r) 43 ((zk_rl y 42 r).2 43) = zk_rl y 42 r := zk_rl_self
        rw [zk_rl_off (by omega)] at this
        exact this.symm, fun i hi => h1 i (by omega)⟩ (by omega)
  subst e3
  refine ⟨a, b, ?_⟩
  have e42 : (zk_rl (zk_rl y 42 a) 43 b).2 42 = a := by rw [zk_rl_off (by omega), zk_rl_on]
  have e4 := zl_eq (fun m (s : Int64 × Int32) => fChance_waysToStay_L85 m (zk_rl (zk_rl y 42 a) 43 b) (jN (zGv k)) s.1 s.2) (fun j => (jL (sm (aN k d w n) j), jN j)) (zGv k) (jL (sm (aN k d w n) (zGv k))) (by
    intro m j hj
    simp only [fChance_waysToStay_L85, e42]
    simp (disch := omega) only [zk_let, Option.bind_some, cond_true, cond_false, if_true, if_false, zbF, zbT, within_in, jn9, k0, k1, k2, k3, k4, k5, k6, k7, k8, k9, k10, k12, k16, k17, k20, k29, k30, k31, k32, k36, k40, k41, k42, k48, k57, k59, k60, k64, k98, k99, k100, k112, k128, k200, k255, k256, k378, k420, k999, k1000000, jN_add, jN_mul, jN_clamp, jN_inbT, Bool.false_eq_true, Bool.true_eq_false, jN_le, h3 j hj, jL_add]
    rw [if_neg (by omega)]
    rfl) (by
    intro m
    simp only [fChance_waysToStay_L85]
    simp (disch := omega) only [zk_let, Option.bind_some, cond_true, cond_false, if_true, if_false, zbF, zbT, within_in, jn9, k0, k1, k2, k3, k4, k5, k6, k7, k8, k9, k10, k12, k16, k17, k20, k29, k30, k31, k32, k36, k40, k41, k42, k48, k57, k59, k60, k64, k98, k99, k100, k112, k128, k200, k255, k256, k378, k420, k999, k1000000, jN_add, jN_mul, jN_clamp, jN_inbT, Bool.false_eq_true, Bool.true_eq_false, jN_le]
    rw [if_pos (by omega)]) 500 (by omega)
  unfold fChance_waysToStay
  dsimp only at e2 e4
  rw [show sm (aN k d w n) 0 = 0 from rfl] at e4
  simp (disch := omega) only [zk_let, Option.bind_some, cond_true, cond_false, if_true, if_false, zbF, zbT, within_in, jn9, k0, k1, k2, k3, k4, k5, k6, k7, k8, k9, k10, k12, k16, k17, k20, k29, k30, k31, k32, k36, k40, k41, k42, k48, k57, k59, k60, k64, k98, k99, k100, k112, k128, k200, k255, k256, k378, k420, k999, k1000000, jN_add, jN_mul, jN_clamp, jN_inbT, Bool.false_eq_true, Bool.true_eq_false, jN_eq]
  rw [if_neg h0, hmin, e1]
  simp only [Option.bind_some, e2, l0, e4]
/-! the model's ways -/
theorem stays83 {z : zkM} {a b : Nat → Int64} {A B : Nat → Nat} {k d x : Nat} (hk : k < 4) (h0 : k ≠ 0) (hd : d < 4) (hx : x < zGv k) (hax : a x = jL (A x)) (hb : ∀ w, w < 64 → b w = jL (B w)) : ∃ b', fMd_stays_L83 500 (zk_rl (zk_rl z 17 a) 18 b) (jN k) (jN d) (jN x) (jN 1) = some (zk_rl (zk_rl z 17 a) 18 b') ∧ ∀ w, w < 64 → b' w = jL (B w + sm (fun i => if w = x + gw k d (i + 1) then A x else 0) 6) := by
  have hv := (gv_all k hk).2.2
  obtain ⟨q, h1, b', h2, h3⟩ := zl_loop (fun n (s : zkM × Int32) => fMd_stays_L83 n s.1 (jN k) (jN d) (jN x) s.2) (fun j s => s.2 = jN (j + 1) ∧ ∃ b', s.1 = zk_rl (zk_rl z 17 a) 18 b' ∧ ∀ w, w < 64 → b' w = jL (B w + sm (fun i => if w = x + gw k d (i + 1) then A x else 0) j)) 6 (fun q => ∃ b', q = zk_rl (zk_rl z 17 a) 18 b' ∧ ∀ w, w < 64 → b' w = jL (B w + sm (fun i => if w = x + gw k d (i + 1) then A x else 0) 6)) (by
    rintro n j ⟨m, x9⟩ hj ⟨e1, b', e2, hr⟩
    dsimp only at e1 e2
    subst e1; subst e2
    simp only [fMd_stays_L83]
    by_cases c : j = 6
    · left
      subst c
      refine ⟨_, ?_, b', rfl, hr⟩
      simp (disch := omega) only [zk_let, Option.bind_some, cond_true, cond_false, if_true, if_false, zbF, zbT, within_in, jn9, k0, k1, k2, k3, k4, k5, k6, k7, k8, k9, k10, k12, k16, k17, k20, k29, k30, k31, k32, k36, k40, k41, k42, k48, k57, k59, k60, k64, k98, k99, k100, k112, k128, k200, k255, k256, k378, k420, k999, k1000000, jN_add, jN_mul, jN_clamp, jN_inbT, Bool.false_eq_true, Bool.true_eq_false, jN_le]
      rfl
    · right
      have hg := gw_all k hk d hd (j + 1) (by omega)
      have e17 : (zk_rl (zk_rl z 17 a) 18 b').2 17 = a := by rw [zk_rl_off (by omega), zk_rl_on]
      refine ⟨by omega, (zk_rl (zk_rl z 17 a) 18 (vp_updL b' (x + gw k d (j + 1)) (b' (x + gw k d (j + 1)) + jL (A x))), jN (j + 1 + 1)), ?_, rfl, _, rfl, fun w hw => ?_⟩
      · simp (disch := omega) only [zk_let, Option.bind_some, cond_true, cond_false, if_true, if_false, zbF, zbT, within_in, jn9, k0, k1, k2, k3, k4, k5, k6, k7, k8, k9, k10, k12, k16, k17, k20, k29, k30, k31, k32, k36, k40, k41, k42, k48, k57, k59, k60, k64, k98, k99, k100, k112, k128, k200, k255, k256, k378, k420, k999, k1000000, jN_add, jN_mul, jN_clamp, jN_inbT, Bool.false_eq_true, Bool.true_eq_false, jN_le, hg.2.1 h0, zk_ul_rl, zk_rl_rl, zk_rl_on, e17, hax]
        rw [if_neg (by omega)]
      · have e9 : sm (fun i => if w = x + gw k d (i + 1) then A x else 0) (j + 1) = sm (fun i => if w = x + gw k d (i + 1) then A x else 0) j + (if w = x + gw k d (j + 1) then A x else 0) := rfl
        rw [e9]
        by_cases c2 : w = x + gw k d (j + 1)
        · rw [if_pos c2, ← c2, updL_same, hr w hw, jL_add, Nat.add_assoc]
        · rw [if_neg c2, updL_ne c2, hr w hw, Nat.add_zero]) 500 (zk_rl (zk_rl z 17 a) 18 b, jN 1) ⟨rfl, b, rfl, fun w hw => hb w hw⟩ (by omega)
  subst h2
  exact ⟨b', h1, h3⟩
/-- what comes to WEAR w from WEARS below x -/
def fx (k d : Nat) (A : Nat → Nat) (x w : Nat) : Nat := sm (fun i => if gw k d (i + 1) ≤ w ∧ w - gw k d (i + 1) < x then A (w - gw k d (i + 1)) else 0) 6
theorem sm_add {f g : Nat → Nat} {K : Nat} : sm (fun i => f i + g i) K = sm f K + sm g K := by
  induction K with
  | zero => rfl
  | succ K ih => simp only [sm]; rw [ih]; omega
theorem fx_s {k d x w : Nat} {A : Nat → Nat} : fx k d A (x + 1) w = fx k d A x w + sm (fun i => if w = x + gw k d (i + 1) then A x else 0) 6 := by
  unfold fx
  rw [← sm_add]
  apply sm_congr
  intro i _
  by_cases c1 : gw k d (i + 1) ≤ w ∧ w - gw k d (i + 1) < x
  · rw [if_pos (by omega), if_pos c1, if_neg (by omega)]; rfl
  · by_cases c2 : w = x + gw k d (i + 1)
    · rw [if_pos (by omega), if_neg c1, if_pos c2, show w - gw k d (i + 1) = x by omega, Nat.zero_add]
    · rw [if_neg (by omega), if_neg c1, if_neg c2]
theorem stays71 {z : zkM} {a b : Nat → Int64} {A : Nat → Nat} {k d : Nat} (hk : k < 4) (h0 : k ≠ 0) (hd : d < 4) (ha : ∀ w, w < zGv k → a w = jL (A w)) (hb : ∀ w, w < 64 → b w = jL 0) : ∃ b', fMd_stays_L71 500 (zk_rl (zk_rl z 17 a) 18 b) (jN k) (jN d) (jN 0) = some (zk_rl (zk_rl z 17 a) 18 b') ∧ ∀ w, w < zGv k → b' w = jL (fr k d A 6 w) := by
  have hv := (gv_all k hk).2.2
  obtain ⟨q, h1, b', h2, h3⟩ := zl_loop (fun n (s : zkM × Int32) => fMd_stays_L71 n s.1 (jN k) (jN d) s.2) (fun x s => s.2 = jN x ∧ ∃ b', s.1 = zk_rl (zk_rl z 17 a) 18 b' ∧ ∀ w, w < 64 → b' w = jL (fx k d A x w)) (zGv k) (fun q => ∃ b', q = zk_rl (zk_rl z 17 a) 18 b' ∧ ∀ w, w < zGv k → b' w = jL (fr k d A 6 w)) (by
    rintro n x ⟨m, x9⟩ hj ⟨e1, b', e2, hr⟩
    dsimp only at e1 e2
    subst e1; subst e2
    simp only [fMd_stays_L71, (gv_all k hk).1]
    by_cases c : x = zGv k
    · left
      refine ⟨_, ?_, b', rfl, fun w hw => ?_⟩
      · simp (disch := omega) only [zk_let, Option.bind_some, cond_true, cond_false, if_true, if_false, zbF, zbT, within_in, jn9, k0, k1, k2, k3, k4, k5, k6, k7, k8, k9, k10, k12, k16, k17, k20, k29, k30, k31, k32, k36, k40, k41, k42, k48, k57, k59, k60, k64, k98, k99, k100, k112, k128, k200, k255, k256, k378, k420, k999, k1000000, jN_add, jN_mul, jN_clamp, jN_inbT, Bool.false_eq_true, Bool.true_eq_false, jN_le]
        rw [if_pos (by omega)]
      · rw [hr w (by omega)]
        congr 1
        unfold fx fr
        apply sm_congr
        intro i _
        by_cases c1 : gw k d (i + 1) ≤ w
        · rw [if_pos (by omega), if_pos c1]
        · rw [if_neg (by omega), if_neg c1]
    · right
      obtain ⟨b2, e3, h3⟩ := stays83 (z := z) (a := a) (b := b') (A := A) (x := x) hk h0 hd (by omega) (ha x (by omega)) hr
      refine ⟨by omega, (zk_rl (zk_rl z 17 a) 18 b2, jN (x + 1)), ?_, rfl, b2, rfl, fun w hw => ?_⟩
      · simp (disch := omega) only [zk_let, Option.bind_some, cond_true, cond_false, if_true, if_false, zbF, zbT, within_in, jn9, k0, k1, k2, k3, k4, k5, k6, k7, k8, k9, k10, k12, k16, k17, k20, k29, k30, k31, k32, k36, k40, k41, k42, k48, k57, k59, k60, k64, k98, k99, k100, k112, k128, k200, k255, k256, k378, k420, k999, k1000000, jN_add, jN_mul, jN_clamp, jN_inbT, Bool.false_eq_true, Bool.true_eq_false, jN_le, e3]
        rw [if_neg (by omega)]
      · rw [h3 w hw, fx_s]) 500 (zk_rl (zk_rl z 17 a) 18 b, jN 0) ⟨rfl, b, rfl, fun w hw => by
        rw [hb w hw, show fx k d A 0 w = 0 from sm_0 (fun i _ => if_neg (by omega))]⟩ (by omega)
  subst h2
  exact ⟨b', h1, h3⟩
theorem stays134 {z : zkM} {a b : Nat → Int64} {A : Nat → Nat} {k d : Nat} (hk : k < 4) (hb : ∀ w, w < zGv k → b w = jL (fr k d A 6 w)) : ∃ a', fMd_stays_L134 500 (zk_rl (zk_rl z 17 a) 18 b) (jN k) (jN 0) = some (zk_rl (zk_rl z 17 a') 18 b) ∧ ∀ w, w < 64 → a' w = jL (nA k d A w) := by
  have hv := (gv_all k hk).2.2
  obtain ⟨q, h1, a', h2, h3⟩ := zl_loop (fun n (s : zkM × Int32) => fMd_stays_L134 n s.1 (jN k) s.2) (fun x s => s.2 = jN x ∧ ∃ a', s.1 = zk_rl (zk_rl z 17 a') 18 b ∧ ∀ w, w < x → a' w = jL (nA k d A w)) 64 (fun q => ∃ a', q = zk_rl (zk_rl z 17 a') 18 b ∧ ∀ w, w < 64 → a' w = jL (nA k d A w)) (by
    rintro n x ⟨m, x9⟩ hj ⟨e1, a', e2, hr⟩
    dsimp only at e1 e2
    subst e1; subst e2
    simp only [fMd_stays_L134, (gv_all k hk).1]
    by_cases c : x = 64
    · left
      refine ⟨_, ?_, a', rfl, fun w hw => hr w (by omega)⟩
      simp (disch := omega) only [zk_let, Option.bind_some, cond_true, cond_false, if_true, if_false, zbF, zbT, within_in, jn9, k0, k1, k2, k3, k4, k5, k6, k7, k8, k9, k10, k12, k16, k17, k20, k29, k30, k31, k32, k36, k40, k41, k42, k48, k57, k59, k60, k64, k98, k99, k100, k112, k128, k200, k255, k256, k378, k420, k999, k1000000, jN_add, jN_mul, jN_clamp, jN_inbT, Bool.false_eq_true, Bool.true_eq_false, jN_le]
      rw [if_pos (by omega)]
    · right
      refine ⟨by omega, (zk_rl (zk_rl z 17 (vp_updL a' x (jL (nA k d A x)))) 18 b, jN (x + 1)), ?_, rfl, _, rfl, fun w hw => ?_⟩
      · have e17 : (zk_rl (zk_rl z 17 a') 18 b).2 17 = a' := by rw [zk_rl_off (by omega), zk_rl_on]
        have hcm : ∀ C : Nat → Int64, zk_rl (zk_rl (zk_rl z 17 a') 18 b) 17 C = zk_rl (zk_rl z 17 C) 18 b := by
          intro C; rw [zk_rl_aba, zk_rl_comm (by omega)]
        simp (disch := omega) only [zk_let, Option.bind_some, cond_true, cond_false, if_true, if_false, zbF, zbT, within_in, jn9, k0, k1, k2, k3, k4, k5, k6, k7, k8, k9, k10, k12, k16, k17, k20, k29, k30, k31, k32, k36, k40, k41, k42, k48, k57, k59, k60, k64, k98, k99, k100, k112, k128, k200, k255, k256, k378, k420, k999, k1000000, jN_add, jN_mul, jN_clamp, jN_inbT, Bool.false_eq_true, Bool.true_eq_false, jN_le, zk_ul_rl, zk_rl_on, e17, hcm]
        rw [if_neg (by omega)]
        unfold nA
        by_cases c2 : x < zGv k
        · rw [if_neg (by omega), if_pos c2, hb x c2]; rfl
        · rw [if_pos (by omega), if_neg c2, l0]; rfl
      · by_cases c2 : w = x
        · rw [c2, updL_same]
        · rw [updL_ne c2]; exact hr w (by omega)) 500 (zk_rl (zk_rl z 17 a) 18 b, jN 0) ⟨rfl, a, rfl, fun w hw => by omega⟩ (by omega)
  subst h2
  exact ⟨a', h1, h3⟩
theorem sm_more {f : Nat → Nat} {K L : Nat} (h : ∀ k, K ≤ k → f k = 0) (hl : K ≤ L) : sm f L = sm f K := by
  induction L with
  | zero => rw [show K = 0 by omega]
  | succ L ih =>
    by_cases c : K = L + 1
    · rw [c]
    · simp only [sm]; rw [ih (by omega), h L (by omega)]; rfl
theorem aN_out {k d w n i : Nat} (hw : w < zGv k) (hi : zGv k ≤ i) : aN k d w n i = 0 := by
  cases n with
  | zero => exact if_neg (by omega)
  | succ n => exact if_neg (by omega)
theorem staysM {z : zkM} {k d w n : Nat} (hk : k < 4) (h0 : k ≠ 0) (hd : d < 4) (hw : w < zGv k) (hn : n ≤ 6) : ∃ a b, fMd_stays z (jN k) (jN w) (jN d) (jN n) = some (jL (sm (aN k d w n) (zGv k)), zk_rl (zk_rl z 17 a) 18 b) := by
  have hv := (gv_all k hk).2.2
  obtain ⟨r, e1, h1⟩ := fMd_stays_L3_i (y := z) (w := w) (by omega)
  obtain ⟨q, e2, a, b, e3, h3⟩ := zl_loop (fun m (s : zkM × Int32) => fMd_stays_L37 m s.1 (jN k) (jN d) (jN n) s.2) (fun j s => s.2 = jN j ∧ ∃ a b, s.1 = zk_rl (zk_rl z 17 a) 18 b ∧ ∀ i, i < 64 → a i = jL (aN k d w j i)) n (fun q => ∃ a b, q = zk_rl (zk_rl z 17 a) 18 b ∧ ∀ i, i < 64 → a i = jL (aN k d w n i)) (by
    rintro m j ⟨s, x⟩ hj ⟨f1, a, b, f2, hr⟩
    dsimp only at f1 f2
    subst f1; subst f2
    simp only [fMd_stays_L37]
    by_cases c : j = n
    · left
      refine ⟨_, ?_, a, b, rfl, c ▸ hr⟩
      simp (disch := omega) only [zk_let, Option.bind_some, cond_true, cond_false, if_true, if_false, zbF, zbT, within_in, jn9, k0, k1, k2, k3, k4, k5, k6, k7, k8, k9, k10, k12, k16, k17, k20, k29, k30, k31, k32, k36, k40, k41, k42, k48, k57, k59, k60, k64, k98, k99, k100, k112, k128, k200, k255, k256, k378, k420, k999, k1000000, jN_add, jN_mul, jN_clamp, jN_inbT, Bool.false_eq_true, Bool.true_eq_false, jN_le]
      rw [if_pos (by omega)]
    · right
      obtain ⟨b1, f3, hb1⟩ := fMd_stays_L47_z (y := zk_rl (zk_rl z 17 a) 18 b)
      rw [zk_rl_rl] at f3
      obtain ⟨b2, f4, hb2⟩ := stays71 (z := z) (a := a) (b := b1) (A := aN k d w j) hk h0 hd (fun i hi => hr i (by omega)) hb1
      obtain ⟨a3, f5, ha3⟩ := stays134 (z := z) (a := a) (b := b2) (A := aN k d w j) hk hb2
      refine ⟨by omega, (zk_rl (zk_rl z 17 a3) 18 b2, jN (j + 1)), ?_, rfl, a3, b2, rfl, ha3⟩
      simp (disch := omega) only [zk_let, Option.bind_some, cond_true, cond_false, if_true, if_false, zbF, zbT, within_in, jn9, k0, k1, k2, k3, k4, k5, k6, k7, k8, k9, k10, k12, k16, k17, k20, k29, k30, k31, k32, k36, k40, k41, k42, k48, k57, k59, k60, k64, k98, k99, k100, k112, k128, k200, k255, k256, k378, k420, k999, k1000000, jN_add, jN_mul, jN_clamp, jN_inbT, Bool.false_eq_true, Bool.true_eq_false, jN_le, f3, f4, f5]
      rw [if_neg (by omega)]) 500 (zk_rl z 17 r, jN 0) ⟨rfl, r, z.2 18, by
        have : zk_rl (zk_rl z 17 r) 18 ((zk_rl z 17 r).2 18) = zk_rl z 17 r := zk_rl_self
        rw [zk_rl_off (by omega)] at this
        exact this.symm, h1⟩ (by omega)
  subst e3
  refine ⟨a, b, ?_⟩
  have e17 : (zk_rl (zk_rl z 17 a) 18 b).2 17 = a := by rw [zk_rl_off (by omega), zk_rl_on]
  have e4 := zl_eq (fun m (s : Int64 × Int32) => fMd_stays_L186 m (zk_rl (zk_rl z 17 a) 18 b) s.1 s.2) (fun j => (jL (sm (aN k d w n) j), jN j)) 64 (jL (sm (aN k d w n) 64)) (by
    intro m j hj
    simp only [fMd_stays_L186, e17]
    simp (disch := omega) only [zk_let, Option.bind_some, cond_true, cond_false, if_true, if_false, zbF, zbT, within_in, jn9, k0, k1, k2, k3, k4, k5, k6, k7, k8, k9, k10, k12, k16, k17, k20, k29, k30, k31, k32, k36, k40, k41, k42, k48, k57, k59, k60, k64, k98, k99, k100, k112, k128, k200, k255, k256, k378, k420, k999, k1000000, jN_add, jN_mul, jN_clamp, jN_inbT, Bool.false_eq_true, Bool.true_eq_false, jN_le, h3 j hj, jL_add]
    rw [if_neg (by omega)]
    rfl) (by
    intro m
    simp only [fMd_stays_L186]
    simp (disch := omega) only [zk_let, Option.bind_some, cond_true, cond_false, if_true, if_false, zbF, zbT, within_in, jn9, k0, k1, k2, k3, k4, k5, k6, k7, k8, k9, k10, k12, k16, k17, k20, k29, k30, k31, k32, k36, k40, k41, k42, k48, k57, k59, k60, k64, k98, k99, k100, k112, k128, k200, k255, k256, k378, k420, k999, k1000000, jN_add, jN_mul, jN_clamp, jN_inbT, Bool.false_eq_true, Bool.true_eq_false, jN_le]
    rw [if_pos (by omega)]) 500 (by omega)
  have e5 : sm (aN k d w n) 64 = sm (aN k d w n) (zGv k) := sm_more (K := zGv k) (L := 64) (fun i hi => aN_out hw hi) (by omega)
  rw [e5] at e4
  unfold fMd_stays
  dsimp only at e2 e4
  rw [show sm (aN k d w n) 0 = 0 from rfl] at e4
  rw [k0, e1]
  simp only [Option.bind_some, e2, l0, e4]
/-! how many ways there are at most -/
theorem sm_shift {A : Nat → Nat} {c K : Nat} : sm (fun w => if c ≤ w then A (w - c) else 0) K = sm A (K - c) := by
  induction K with
  | zero => rw [Nat.zero_sub]; rfl
  | succ K ih =>
    have e : sm (fun w => if c ≤ w then A (w - c) else 0) (K + 1) = sm (fun w => if c ≤ w then A (w - c) else 0) K + (if c ≤ K then A (K - c) else 0) := rfl
    rw [e, ih]
    by_cases h : c ≤ K
    · rw [if_pos h, show K + 1 - c = (K - c) + 1 by omega]; rfl
    · rw [if_neg h, show K + 1 - c = K - c by omega]; rfl
theorem sm_mono {f : Nat → Nat} {K L : Nat} (h : K ≤ L) : sm f K ≤ sm f L := by
  induction L with
  | zero => rw [show K = 0 by omega]; exact Nat.le_refl _
  | succ L ih =>
    by_cases c : K = L + 1
    · rw [c]; exact Nat.le_refl _
    · have := ih (by omega)
      simp only [sm]; omega
theorem sm_swap {f : Nat → Nat → Nat} {K L : Nat} : sm (fun w => sm (f w) K) L = sm (fun i => sm (fun w => f w i) L) K := by
  induction K with
  | zero => exact sm_0 (fun _ _ => rfl)
  | succ K ih =>
    have e : sm (fun w => sm (f w) (K + 1)) L = sm (fun w => sm (f w) K + f w K) L := rfl
    rw [e, sm_add, ih]; rfl
theorem sm_nA {k d : Nat} {A : Nat → Nat} : sm (nA k d A) (zGv k) ≤ 6 * sm A (zGv k) := by
  have e : sm (nA k d A) (zGv k) = sm (fun w => sm (fun i => if gw k d (i + 1) ≤ w then A (w - gw k d (i + 1)) else 0) 6) (zGv k) := sm_congr (fun w hw => if_pos hw)
  rw [e, sm_swap (f := fun w i => if gw k d (i + 1) ≤ w then A (w - gw k d (i + 1)) else 0)]
  apply sm_le
  intro i _
  rw [sm_shift]
  exact sm_mono (by omega)
theorem sm_ind {w K : Nat} : sm (ind w) K ≤ 1 := by
  have : ∀ K, sm (ind w) K = if w < K then 1 else 0 := by
    intro K
    induction K with
    | zero => rfl
    | succ K ih =>
      have e : sm (ind w) (K + 1) = sm (ind w) K + ind w K := rfl
      rw [e, ih]
      unfold ind
      by_cases c : K = w
      · subst c; rw [if_neg (by omega), if_pos rfl, if_pos (by omega)]
      · rw [if_neg c]
        by_cases c2 : w < K
        · rw [if_pos c2, if_pos (by omega)]
        · rw [if_neg c2, if_neg (by omega)]
  rw [this K]; split <;> omega
theorem sm_aN {k d w : Nat} (n : Nat) : sm (aN k d w n) (zGv k) ≤ 6 ^ n := by
  induction n with
  | zero => exact sm_ind
  | succ n ih =>
    have h := sm_nA (k := k) (d := d) (A := aN k d w n)
    rw [Nat.pow_succ]
    have e : sm (aN k d w (n + 1)) (zGv k) = sm (nA k d (aN k d w n)) (zGv k) := rfl
    omega
/-! the greatest number that both share -/
theorem gcd_step (a b : Nat) : Nat.gcd a b = Nat.gcd b (a % b) := by rw [Nat.gcd_comm a b, Nat.gcd_rec b a, Nat.gcd_comm]
theorem half_mod {b r : Nat} (h0 : 0 < r) (h : r < b) : 2 * (b % r) < b := by
  have h1 := Nat.mod_lt b h0
  have h2 := Nat.div_add_mod b r
  have h3 : 1 ≤ b / r := Nat.div_pos (by omega) h0
  have h4 : r * 1 ≤ r * (b / r) := Nat.mul_le_mul_left r h3
  omega
theorem jL_rem {a b : Nat} (h1 : a < 1000000000) (h2 : b < 1000000000) : jL a - jL a / jL b * jL b = jL (a % b) := by
  have h3 := Nat.div_add_mod a b
  rw [jL_div h1 h2, jL_mul, jL_sub (by rw [Nat.mul_comm]; omega), Nat.mul_comm]
  congr 1; omega
theorem gsX {y : zkM} : ∀ k a b i n, b < 2 ^ k → a < 1000000 → b < 1000000 → i + 2 * k < 128 → 2 * k < n → fChance_greatestShared_L3 n y (jL a) (jL b) (jN i) = some (jL (Nat.gcd a b)) := by
  have fin : ∀ a i n, a < 1000000 → i < 128 → 0 < n → fChance_greatestShared_L3 n y (jL a) (jL 0) (jN i) = some (jL (Nat.gcd a 0)) := by
    intro a i n ha hi hn
    cases n with
    | zero => omega
    | succ n =>
      simp only [fChance_greatestShared_L3, l0, lg_0 (show 0 < 1000000000 by omega), if_true]
      rw [k0, if_pos rfl, Nat.gcd_zero_right]
      split <;> rfl
  have stp : ∀ a b i n, a < 1000000 → b < 1000000 → b ≠ 0 → i < 128 → fChance_greatestShared_L3 (n + 1) y (jL a) (jL b) (jN i) = fChance_greatestShared_L3 n y (jL b) (jL (a % b)) (jN (i + 1)) := by
    intro a b i n ha hb h0 hi
    simp only [fChance_greatestShared_L3, l0, lg_0 (show b < 1000000000 by omega), if_neg h0]
    rw [k128, k0, k1, if_neg (show ¬ jN 1 = jN 0 by decide), if_neg (show ¬ jN 128 ≤ jN i by rw [jN_le (by omega) (by omega)]; omega), if_neg (by rw [jL_eq (by omega) (by omega)]; exact h0)]
    simp only [zk_let]
    rw [jL_rem (by omega) (by omega), jN_add]
  intro k
  induction k with
  | zero =>
    intro a b i n hb ha _ hi hn
    rw [show b = 0 by omega]
    exact fin a i n ha (by omega) (by omega)
  | succ k ih =>
    intro a b i n hb ha hb2 hi hn
    by_cases c : b = 0
    · rw [c]; exact fin a i n ha (by omega) (by omega)
    · have hr := Nat.mod_lt a (Nat.pos_of_ne_zero c)
      obtain ⟨n, rfl⟩ : ∃ m, n = m + 2 := ⟨n - 2, by omega⟩
      rw [stp a b i (n + 1) ha hb2 c (by omega), gcd_step a b]
      by_cases c2 : a % b = 0
      · rw [c2]; exact fin b (i + 1) (n + 1) hb2 (by omega) (by omega)
      · have h9 := half_mod (Nat.pos_of_ne_zero c2) hr
        rw [stp b (a % b) (i + 1) n hb2 (by omega) c2 (by omega), gcd_step b (a % b)]
        exact ih (a % b) (b % (a % b)) (i + 1 + 1) n (by rw [Nat.pow_succ] at hb; omega) (by omega) (by omega) (by omega) (by omega)
theorem gsM {z : zkM} : ∀ k a b n, b < 2 ^ k → a < 1000000 → b < 1000000 → 2 * k < n → fMd_odds_L146 n z (jL a) (jL b) = some (jL (Nat.gcd a b)) := by
  have fin : ∀ a n, a < 1000000 → 0 < n → fMd_odds_L146 n z (jL a) (jL 0) = some (jL (Nat.gcd a 0)) := by
    intro a n ha hn
    cases n with
    | zero => omega
    | succ n =>
      simp only [fMd_odds_L146, l0, lg_0 (show 0 < 1000000000 by omega), if_true]
      rw [k0, if_pos (show jN 0 ≤ jN 0 by decide), Nat.gcd_zero_right]
  have stp : ∀ a b n, a < 1000000 → b < 1000000 → b ≠ 0 → fMd_odds_L146 (n + 1) z (jL a) (jL b) = fMd_odds_L146 n z (jL b) (jL (a % b)) := by
    intro a b n ha hb h0
    simp only [fMd_odds_L146, l0, lg_0 (show b < 1000000000 by omega), if_neg h0]
    rw [k0, if_neg (show ¬ jN 1 ≤ jN 0 by decide), if_neg (by rw [jL_eq (by omega) (by omega)]; exact h0)]
    simp only [zk_let]
    rw [jL_rem (by omega) (by omega)]
  intro k
  induction k with
  | zero =>
    intro a b n hb ha _ hn
    rw [show b = 0 by omega]
    exact fin a n ha (by omega)
  | succ k ih =>
    intro a b n hb ha hb2 hn
    by_cases c : b = 0
    · rw [c]; exact fin a n ha (by omega)
    · have hr := Nat.mod_lt a (Nat.pos_of_ne_zero c)
      obtain ⟨n, rfl⟩ : ∃ m, n = m + 2 := ⟨n - 2, by omega⟩
      rw [stp a b (n + 1) ha hb2 c, gcd_step a b]
      by_cases c2 : a % b = 0
      · rw [c2]; exact fin b (n + 1) hb2 (by omega)
      · have h9 := half_mod (Nat.pos_of_ne_zero c2) hr
        rw [stp b (a % b) n hb2 (by omega) c2, gcd_step b (a % b)]
        exact ih (a % b) (b % (a % b)) n (by rw [Nat.pow_succ] at hb; omega) (by omega) (by omega) (by omega)
theorem allX {y : zkM} {n : Nat} (hn : n ≤ 6) : fChance_allWays y (jN n) = some (jL (6 ^ n)) := by
  unfold fChance_allWays
  have := zl_eq (fun m (s : Int64 × Int32) => fChance_allWays_L4 m y (jN n) s.1 s.2) (fun k => (jL (6 ^ k), jN k)) n (jL (6 ^ n)) ?_ ?_ 500 (by omega)
  · rw [k0, l1]; dsimp only at this; rw [Nat.pow_zero] at this; rw [this]; rfl
  · intro m k hk
    simp only [fChance_allWays_L4]
    simp (disch := omega) only [zk_let, Option.bind_some, cond_true, cond_false, if_true, if_false, zbF, zbT, within_in, jn9, k0, k1, k2, k3, k4, k5, k6, k7, k8, k9, k10, k12, k16, k17, k20, k29, k30, k31, k32, k36, k40, k41, k42, k48, k57, k59, k60, k64, k98, k99, k100, k112, k128, k200, k255, k256, k378, k420, k999, k1000000, jN_add, jN_mul, jN_clamp, jN_inbT, Bool.false_eq_true, Bool.true_eq_false, jN_le, l6, jL_mul]
    rw [if_neg (by omega), ← Nat.pow_succ]
  · intro m
    simp only [fChance_allWays_L4]
    simp (disch := omega) only [zk_let, Option.bind_some, cond_true, cond_false, if_true, if_false, zbF, zbT, within_in, jn9, k0, k1, k2, k3, k4, k5, k6, k7, k8, k9, k10, k12, k16, k17, k20, k29, k30, k31, k32, k36, k40, k41, k42, k48, k57, k59, k60, k64, k98, k99, k100, k112, k128, k200, k255, k256, k378, k420, k999, k1000000, jN_add, jN_mul, jN_clamp, jN_inbT, Bool.false_eq_true, Bool.true_eq_false, jN_le]
    rw [if_pos (by omega)]
theorem allM {z : zkM} {n : Nat} (hn : n ≤ 6) : fMd_odds_L71 500 z (jN n) (jL 1) (jN 0) = some (jL (6 ^ n)) := by
  have := zl_eq (fun m (s : Int64 × Int32) => fMd_odds_L71 m z (jN n) s.1 s.2) (fun k => (jL (6 ^ k), jN k)) n (jL (6 ^ n)) ?_ ?_ 500 (by omega)
  · exact this
  · intro m k hk
    simp only [fMd_odds_L71]
    simp (disch := omega) only [zk_let, Option.bind_some, cond_true, cond_false, if_true, if_false, zbF, zbT, within_in, jn9, k0, k1, k2, k3, k4, k5, k6, k7, k8, k9, k10, k12, k16, k17, k20, k29, k30, k31, k32, k36, k40, k41, k42, k48, k57, k59, k60, k64, k98, k99, k100, k112, k128, k200, k255, k256, k378, k420, k999, k1000000, jN_add, jN_mul, jN_clamp, jN_inbT, Bool.false_eq_true, Bool.true_eq_false, jN_le, l6, jL_mul]
    rw [if_neg (by omega), ← Nat.pow_succ]
  · intro m
    simp only [fMd_odds_L71]
    simp (disch := omega) only [zk_let, Option.bind_some, cond_true, cond_false, if_true, if_false, zbF, zbT, within_in, jn9, k0, k1, k2, k3, k4, k5, k6, k7, k8, k9, k10, k12, k16, k17, k20, k29, k30, k31, k32, k36, k40, k41, k42, k48, k57, k59, k60, k64, k98, k99, k100, k112, k128, k200, k255, k256, k378, k420, k999, k1000000, jN_add, jN_mul, jN_clamp, jN_inbT, Bool.false_eq_true, Bool.true_eq_false, jN_le]
    rw [if_pos (by omega)]
theorem pr_odds {y z : zkM} (h : zRel y z) (a1 : Int32) (a2 : Int32) (a3 : Int32) (a4 : Int32) : ∃ v y' z', sX_odds y a1 a2 a3 a4 v y' ∧ sM_odds z a1 a2 a3 a4 v z' ∧ zRel y' z' := by
  obtain ⟨T, R, hA⟩ := h.all
  obtain ⟨hT, hx, hm, hS, sx, sm', -⟩ := id hA
  obtain ⟨t1, t2, t3, t4, t5, t6⟩ := id hT
  unfold sX_odds sM_odds fTp_odds fMd_odds fTp_isEnd fTp_isPlank fMd_isPlank fMd_endAt
  simp only [within_in, hx.2.1, hm.2.1, zbF, k0, k1, k2, k3, k4, k5, k6, k7, k8, k9, k10, k12, k16, k17, k20, k29, k30, k31, k32, k36, k40, k41, k42, k48, k57, k59, k60, k64, k98, k99, k100, k112, k128, k200, k255, k256, k378, k420, k999, k1000000]
  rcases in_lt a1 (K := T 0 1) (by omega) with ⟨hw, p, hp, rfl⟩ | ⟨hw, -⟩
  · simp only [hw, Bool.true_eq_false, if_false]
    rcases in_fr a2 (lo := 0) (hi := 1) (by omega) (by omega) with ⟨h1, e, -, he, rfl⟩ | ⟨h1, -⟩
    · simp only [h1, Bool.true_eq_false, if_false]
      rcases in_fr a3 (lo := 0) (hi := 6) (by omega) (by omega) with ⟨h2, n, -, hn, rfl⟩ | ⟨h2, -⟩
      · simp only [h2, Bool.true_eq_false, if_false]
        rcases in_fr a4 (lo := 0) (hi := 1) (by omega) (by omega) with ⟨h3, v, -, hv, rfl⟩ | ⟨h3, -⟩
        · simp only [h3, Bool.true_eq_false, if_false]
          have he2 : 2 * p + e < 2 * T 0 1 := by omega
          have sx3 := sx.2.2 _ he2
          have sm3 := sm'.2.2 _ he2
          have sb3 := hS.2 _ he2
          have hd := df_le hT hp
          rw [show 6 + 3 * (2 * p + e) = 6 + 6 * p + 3 * e by omega, show 7 + 3 * (2 * p + e) = 6 + 6 * p + 3 * e + 1 by omega, show 8 + 3 * (2 * p + e) = 6 + 6 * p + 3 * e + 2 by omega] at sm3
          have ho := isOut_spec (y := y) (e := 2 * p + e) (by omega) sx3.2.2 sb3.2.2.1
          have p6 : 6 ^ n ≤ 6 ^ 6 := Nat.pow_le_pow_right (by omega) hn
          have p0 : 0 < 6 ^ n := Nat.pow_pos (by omega)
          simp (disch := omega) only [zk_let, Option.bind_some, cond_true, cond_false, if_true, if_false, zbF, zbT, within_in, jn9, k0, k1, k2, k3, k4, k5, k6, k7, k8, k9, k10, k12, k16, k17, k20, k29, k30, k31, k32, k36, k40, k41, k42, k48, k57, k59, k60, k64, k98, k99, k100, k112, k128, k200, k255, k256, k378, k420, k999, k1000000, jN_add, jN_mul, jN_clamp, jN_inbT, Bool.false_eq_true, Bool.true_eq_false, ho, sm3, jN_eq, l0, l1, allX, allM]
          by_cases c1 : R 2 (2 * p + e) = 1
          · rw [if_pos c1]
            simp only [c1, decide_true, Bool.true_eq_false, if_false]
            exact ⟨_, y, z, rfl, rfl, h⟩
          · rw [if_neg c1]
            simp only [c1, decide_false, if_true]
            have hwk := sb3.2.2.2 (by omega)
            have hsw := swayX hT hx hp
            have hdf := differM hT hm he2
            rw [show (2 * p + e) / 2 = p by omega] at hdf
            unfold fScene_kindOf fScene_wearOf
            simp (disch := omega) only [zk_let, Option.bind_some, cond_true, cond_false, if_true, if_false, zbF, zbT, within_in, jn9, k0, k1, k2, k3, k4, k5, k6, k7, k8, k9, k10, k12, k16, k17, k20, k29, k30, k31, k32, k36, k40, k41, k42, k48, k57, k59, k60, k64, k98, k99, k100, k112, k128, k200, k255, k256, k378, k420, k999, k1000000, jN_add, jN_mul, jN_clamp, jN_inbT, Bool.false_eq_true, Bool.true_eq_false, sx3, hsw, hdf]
            have fin : ∀ (good : Nat) (y' z' : zkM), good ≤ 6 ^ n → zRel y' z' → ∃ v9 y9 z9, ((fChance_greatestShared y' (jL (6 ^ n)) (jL good)).bind fun q8 => if lg_cmp q8 (jL 0) ≤ jN 0 then some ((if v = 0 then jL good else jL (6 ^ n)) / jL 1, y') else if q8 = jL 0 then none else some ((if v = 0 then jL good else jL (6 ^ n)) / q8, y')) = some (v9, y9) ∧ ((fMd_odds_L146 500 z' (jL good) (jL (6 ^ n))).bind fun q11 => if v = 0 then if q11 = jL 0 then none else some (jL good / q11, z') else if q11 = jL 0 then none else some (jL (6 ^ n) / q11, z')) = some (v9, z9) ∧ zRel y9 z9 := by
              intro good y' z' hgd hrel
              have f1 : fChance_greatestShared y' (jL (6 ^ n)) (jL good) = some (jL (Nat.gcd (6 ^ n) good)) := by
                unfold fChance_greatestShared
                rw [k0, gsX 16 _ _ _ _ (by omega) (by omega) (by omega) (by omega) (by omega)]; rfl
              have f2 : fMd_odds_L146 500 z' (jL good) (jL (6 ^ n)) = some (jL (Nat.gcd (6 ^ n) good)) := by
                rw [gsM 16 _ _ _ (by omega) (by omega) (by omega) (by omega), Nat.gcd_comm]
              have g1 : 0 < Nat.gcd (6 ^ n) good := Nat.gcd_pos_of_pos_left _ p0
              have g2 : Nat.gcd (6 ^ n) good ≤ 6 ^ n := Nat.gcd_le_left _ p0
              have g3 : ¬ jL (Nat.gcd (6 ^ n) good) = jL 0 := by rw [jL_eq (by omega) (by omega)]; omega
              rw [f1, f2]
              simp only [Option.bind_some]
              rw [lg_0 (by omega), if_neg (show ¬ Nat.gcd (6 ^ n) good = 0 by omega), if_neg (show ¬ jN 1 ≤ jN 0 by decide), if_neg g3]
              by_cases cv : v = 0
              · rw [if_pos cv, if_pos cv]
                exact ⟨_, y', z', rfl, if_neg g3, hrel⟩
              · rw [if_neg cv, if_neg cv]
                exact ⟨_, y', z', rfl, if_neg g3, hrel⟩
            by_cases ck : R 0 (2 * p + e) = 0
            · have f3 : fChance_waysToStay y (jN (R 0 (2 * p + e))) (jN (R 1 (2 * p + e))) (jN (df T p)) (jN n) = some (jL (6 ^ n), y) := by
                unfold fChance_waysToStay
                rw [ck, k0, if_pos rfl, allX hn]; rfl
              rw [f3, if_pos ck]
              simp only [Option.bind_some]
              exact fin (6 ^ n) y z (Nat.le_refl _) h
            · obtain ⟨a, b, f3⟩ := waysX (y := y) (w := R 1 (2 * p + e)) (d := df T p) (n := n) (show R 0 (2 * p + e) < 4 by omega) ck (by omega) (by omega) hn
              obtain ⟨a', b', f4⟩ := staysM (z := z) (w := R 1 (2 * p + e)) (d := df T p) (n := n) (show R 0 (2 * p + e) < 4 by omega) ck (by omega) hwk hn
              rw [f3, if_neg ck, f4]
              simp only [Option.bind_some]
              refine fin _ _ _ (sm_aN n) (hA.same ((zKx.rl (by omega)).tr (zKx.rl (by omega))) ((zKm.rl (by omega)).tr (zKm.rl (by omega)))).rel
        · exact ⟨-1, y, z, by simp [h3], by simp [h3], h⟩
      · exact ⟨-1, y, z, by simp [h2], by simp [h2], h⟩
    · exact ⟨-1, y, z, by simp [h1], by simp [h1], h⟩
  · exact ⟨-1, y, z, by simp [hw], by simp [hw], h⟩
