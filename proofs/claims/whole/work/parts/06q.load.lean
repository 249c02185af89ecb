/-! WHAT PLANKS AND BOUGHS BEAR -/
/-- the LOAD of a PLANK by the first k children, u c being the PLANK under child c -/
def ld (T : Nat → Nat → Nat) (u : Nat → Nat) : Nat → Nat → Nat
  | 0, _ => 0
  | k + 1, p => ld T u k p + (if u k = p ∧ u k < T 0 1 then T 7 k else 0)
/-- what a BOUGH bears by the first n PLANKS, of LOADS L -/
def be (T : Nat → Nat → Nat) (L : Nat → Nat) : Nat → Nat → Nat
  | 0, _ => 0
  | n + 1, b => be T L n b + (if T 4 n = b then (L n + 1) / 2 else 0) + (if T 5 n = b then L n / 2 else 0)
theorem ld_le {T : Nat → Nat → Nat} {u : Nat → Nat} (hT : zTb T) {k : Nat} (hk : k ≤ T 0 2) (p : Nat) : ld T u k p ≤ 9 * k := by
  induction k with
  | zero => simp [ld]
  | succ k ih =>
    have := ih (by omega)
    have := (hT.2.2.2.2.2 k (by omega)).2.1
    simp only [ld]; split <;> omega
theorem be_congr {T : Nat → Nat → Nat} {L L' : Nat → Nat} {n : Nat} (h : ∀ p, p < n → L p = L' p) (b : Nat) : be T L n b = be T L' n b := by
  induction n with
  | zero => rfl
  | succ n ih => simp only [be]; rw [ih (fun p hp => h p (by omega)), h n (by omega)]
def setL (L : Nat → Nat) (p m : Nat) : Nat → Nat := fun q => if q = p then m else L q
theorem be_set {T : Nat → Nat → Nat} {L : Nat → Nat} {n p m b : Nat} (hp : p < n) : (be T (setL L p m) n b : Int) = be T L n b - (if T 4 p = b then ((L p : Int) - (L p / 2 : Nat)) else 0) - (if T 5 p = b then ((L p / 2 : Nat) : Int) else 0) + (if T 4 p = b then ((m : Int) - (m / 2 : Nat)) else 0) + (if T 5 p = b then ((m / 2 : Nat) : Int) else 0) := by
  induction n with
  | zero => omega
  | succ n ih =>
    simp only [be]
    by_cases c : p = n
    · subst c
      rw [be_congr (L' := L) (fun q hq => by simp [setL]; omega)]
      have e : setL L p m p = m := by simp [setL]
      rw [e]
      by_cases h4 : T 4 p = b <;> by_cases h5 : T 5 p = b <;> simp only [h4, h5, if_true, if_false] <;> omega
    · have := ih (by omega)
      have e : setL L p m n = L n := by simp [setL]; omega
      rw [e]
      by_cases h4 : T 4 n = b <;> by_cases h5 : T 5 n = b <;> simp only [h4, h5, if_true, if_false] at this ⊢ <;> omega
theorem be_le {T : Nat → Nat → Nat} {L : Nat → Nat} {M : Nat} (n b : Nat) (h : ∀ p, p < n → L p ≤ M) : be T L n b ≤ 2 * n * (M + 1) := by
  induction n with
  | zero => simp [be]
  | succ n ih =>
    have := ih (fun p hp => h p (by omega))
    have hn := h n (by omega)
    simp only [be]
    have e : 2 * (n + 1) * (M + 1) = 2 * n * (M + 1) + 2 * (M + 1) := by rw [show 2 * (n + 1) = 2 * n + 2 by omega, Nat.add_mul]
    rw [e]
    split <;> split <;> omega
theorem zk_row_787 {y : zkM} {a b : Nat} {A B C : Nat → Int32} (h : a ≠ b) : zk_row (zk_row (zk_row y b A) a B) b C = zk_row (zk_row y a B) b C := by
  rw [zk_row_comm (a := a) (c := b) h, zk_row_row]
/-- the rows of LOADS and of what BOUGHS bear -/
def zLd (T : Nat → Nat → Nat) (L : Nat → Nat) (r7 r8 : Nat → Int32) : Prop := (∀ p, p < T 0 1 → r7 p = jN (L p)) ∧ ∀ b, b < T 0 0 → r8 b = jN (be T L (T 0 1) b)
theorem add_spec {T : Nat → Nat → Nat} {L : Nat → Nat} {y : zkM} {p m : Nat} {w : Int32} (hT : zTb T) (hx : zTx T y.1) (h : zLd T L (y.1 7) (y.1 8)) (hp : p < T 0 1) (hw : jN (L p) + w = jN m) (hl : L p < 1000) (hm : m < 1000) : ∃ r7 r8, fBurden_add y (jN p) w = some (zk_row (zk_row y 7 r7) 8 r8) ∧ zLd T (setL L p m) r7 r8 := by
  obtain ⟨t1, t2, t3, t4, t5, t6⟩ := hT
  have hab := t5 p hp
  have e7 := h.1 p hp
  refine ⟨upd (y.1 7) p (jN m), upd (upd (upd (upd (y.1 8) (T 4 p) (y.1 8 (T 4 p) - (jN (L p) - jN (L p / 2)))) (T 5 p) (upd (y.1 8) (T 4 p) (y.1 8 (T 4 p) - (jN (L p) - jN (L p / 2))) (T 5 p) - jN (L p / 2))) (T 4 p) (upd (upd (y.1 8) (T 4 p) (y.1 8 (T 4 p) - (jN (L p) - jN (L p / 2)))) (T 5 p) (upd (y.1 8) (T 4 p) (y.1 8 (T 4 p) - (jN (L p) - jN (L p / 2))) (T 5 p) - jN (L p / 2)) (T 4 p) + (jN m - jN (m / 2)))) (T 5 p) (upd (upd (upd (y.1 8) (T 4 p) (y.1 8 (T 4 p) - (jN (L p) - jN (L p / 2)))) (T 5 p) (upd (y.1 8) (T 4 p) (y.1 8 (T 4 p) - (jN (L p) - jN (L p / 2))) (T 5 p) - jN (L p / 2))) (T 4 p) (upd (upd (y.1 8) (T 4 p) (y.1 8 (T 4 p) - (jN (L p) - jN (L p / 2)))) (T 5 p) (upd (y.1 8) (T 4 p) (y.1 8 (T 4 p) - (jN (L p) - jN (L p / 2))) (T 5 p) - jN (L p / 2)) (T 4 p) + (jN m - jN (m / 2))) (T 5 p) + jN (m / 2)), ?_, ?_, ?_⟩
  · unfold fBurden_add
    simp (disch := omega) only [zk_let, Option.bind_some, cond_true, cond_false, if_true, if_false, zbF, zbT, within_in, jn9, k0, k1, k2, k3, k4, k5, k6, k7, k8, k9, k10, k12, k16, k17, k20, k29, k30, k31, k32, k36, k40, k41, k42, k48, k57, k59, k60, k64, k98, k99, k100, k112, k128, k200, k255, k256, k378, k420, k999, k1000000, jN_add, jN_mul, jN_clamp, jN_inbT, Bool.false_eq_true, Bool.true_eq_false, (hx.2.2.2.2.1 p hp).1, (hx.2.2.2.2.1 p hp).2.1, zk_u_row, zk_row_row, zk_row_on, zk_row_off (show (7 : Nat) ≠ 8 by omega), zk_row_off (show (8 : Nat) ≠ 7 by omega), zk_row_787 (show (7 : Nat) ≠ 8 by omega), e7, hw, upd_same, jN_div]
  · intro q hq
    by_cases c : q = p
    · subst c; rw [upd_same]; simp [setL]
    · rw [upd_ne c, h.1 q hq]; simp [setL, c]
  · intro x hx8
    have e8 := h.2 x hx8
    have hs := be_set (T := T) (L := L) (m := m) (b := x) hp
    show _ = iI _
    rw [hs]
    have e8' : y.1 8 x = iI (be T L (T 0 1) x : Int) := e8
    by_cases c5 : T 5 p = x
    · by_cases c4 : T 4 p = x
      · simp only [c4, c5, if_true, upd_same, e8']
        unfold jN
        simp only [iI_add, iI_sub]
      · have c4' : x ≠ T 4 p := fun e => c4 e.symm
        simp only [c4, c5, if_true, if_false, upd_same, upd_ne c4', e8']
        unfold jN
        simp only [iI_add, iI_sub]
        congr 1; omega
    · have c5' : x ≠ T 5 p := fun e => c5 e.symm
      by_cases c4 : T 4 p = x
      · simp only [c4, c5, if_true, if_false, upd_same, upd_ne c5', e8']
        unfold jN
        simp only [iI_add, iI_sub]
        congr 1; omega
      · have c4' : x ≠ T 4 p := fun e => c4 e.symm
        simp only [c4, c5, if_false, upd_ne c5', upd_ne c4', e8']
        congr 1
theorem addP_spec {T : Nat → Nat → Nat} {L : Nat → Nat} {y : zkM} {p m : Nat} {w : Int32} (hT : zTb T) (hx : zTx T y.1) (h : zLd T L (y.1 32) (y.1 33)) (hp : p < T 0 1) (hw : jN (L p) + w = jN m) (hl : L p < 1000) (hm : m < 1000) : ∃ r7 r8, fBurden_addP y (jN p) w = some (zk_row (zk_row y 32 r7) 33 r8) ∧ zLd T (setL L p m) r7 r8 := by
  obtain ⟨t1, t2, t3, t4, t5, t6⟩ := hT
  have hab := t5 p hp
  have e7 := h.1 p hp
  refine ⟨upd (y.1 32) p (jN m), upd (upd (upd (upd (y.1 33) (T 4 p) (y.1 33 (T 4 p) - (jN (L p) - jN (L p / 2)))) (T 5 p) (upd (y.1 33) (T 4 p) (y.1 33 (T 4 p) - (jN (L p) - jN (L p / 2))) (T 5 p) - jN (L p / 2))) (T 4 p) (upd (upd (y.1 33) (T 4 p) (y.1 33 (T 4 p) - (jN (L p) - jN (L p / 2)))) (T 5 p) (upd (y.1 33) (T 4 p) (y.1 33 (T 4 p) - (jN (L p) - jN (L p / 2))) (T 5 p) - jN (L p / 2)) (T 4 p) + (jN m - jN (m / 2)))) (T 5 p) (upd (upd (upd (y.1 33) (T 4 p) (y.1 33 (T 4 p) - (jN (L p) - jN (L p / 2)))) (T 5 p) (upd (y.1 33) (T 4 p) (y.1 33 (T 4 p) - (jN (L p) - jN (L p / 2))) (T 5 p) - jN (L p / 2))) (T 4 p) (upd (upd (y.1 33) (T 4 p) (y.1 33 (T 4 p) - (jN (L p) - jN (L p / 2)))) (T 5 p) (upd (y.1 33) (T 4 p) (y.1 33 (T 4 p) - (jN (L p) - jN (L p / 2))) (T 5 p) - jN (L p / 2)) (T 4 p) + (jN m - jN (m / 2))) (T 5 p) + jN (m / 2)), ?_, ?_, ?_⟩
  · unfold fBurden_addP
    simp (disch := omega) only [zk_let, Option.bind_some, cond_true, cond_false, if_true, if_false, zbF, zbT, within_in, jn9, k0, k1, k2, k3, k4, k5, k6, k7, k8, k9, k10, k12, k16, k17, k20, k29, k30, k31, k32, k36, k40, k41, k42, k48, k57, k59, k60, k64, k98, k99, k100, k112, k128, k200, k255, k256, k378, k420, k999, k1000000, jN_add, jN_mul, jN_clamp, jN_inbT, Bool.false_eq_true, Bool.true_eq_false, (hx.2.2.2.2.1 p hp).1, (hx.2.2.2.2.1 p hp).2.1, zk_u_row, zk_row_row, zk_row_on, zk_row_off (show (32 : Nat) ≠ 33 by omega), zk_row_off (show (33 : Nat) ≠ 32 by omega), zk_row_787 (show (32 : Nat) ≠ 33 by omega), e7, hw, upd_same, jN_div]
  · intro q hq
    by_cases c : q = p
    · subst c; rw [upd_same]; simp [setL]
    · rw [upd_ne c, h.1 q hq]; simp [setL, c]
  · intro x hx8
    have e8 := h.2 x hx8
    have hs := be_set (T := T) (L := L) (m := m) (b := x) hp
    show _ = iI _
    rw [hs]
    have e8' : y.1 33 x = iI (be T L (T 0 1) x : Int) := e8
    by_cases c5 : T 5 p = x
    · by_cases c4 : T 4 p = x
      · simp only [c4, c5, if_true, upd_same, e8']
        unfold jN
        simp only [iI_add, iI_sub]
      · have c4' : x ≠ T 4 p := fun e => c4 e.symm
        simp only [c4, c5, if_true, if_false, upd_same, upd_ne c4', e8']
        unfold jN
        simp only [iI_add, iI_sub]
        congr 1; omega
    · have c5' : x ≠ T 5 p := fun e => c5 e.symm
      by_cases c4 : T 4 p = x
      · simp only [c4, c5, if_true, if_false, upd_same, upd_ne c5', e8']
        unfold jN
        simp only [iI_add, iI_sub]
        congr 1; omega
      · have c4' : x ≠ T 4 p := fun e => c4 e.symm
        simp only [c4, c5, if_false, upd_ne c5', upd_ne c4', e8']
        congr 1
