/-! most, richest: rows of places, by numbers -/
theorem hA_iff {T R : Nat → Nat → Nat} {L : Nat → Nat} (hT : zTb T) : hA T R L = true ↔ (∀ p, p < T 0 1 → L p ≤ T 6 p) ∧ (∀ b, b < T 0 0 → be T L (T 0 1) b ≤ T 2 b) ∧ ∀ p, p < T 0 1 → 0 < L p → oB R (2 * p) = false ∧ oB R (2 * p + 1) = false := by
  have t1 := hT.1
  have t2 := hT.2.1
  unfold hA
  rw [Bool.and_eq_true, Bool.and_eq_true, decide_eq_true_eq, decide_eq_true_eq, decide_eq_true_eq, fa_no _ 0 (by omega), fa_no _ 0 (by omega), fa_no _ 0 (by omega)]
  constructor
  · intro ⟨h1, h2, h3⟩
    refine ⟨fun p hp => ?_, fun b hb => ?_, fun p hp hl => ?_⟩
    · have := h1 p (by omega) (by omega)
      unfold cH at this
      have := of_decide_eq_false this
      omega
    · have := h2 b (by omega) (by omega)
      unfold cW at this
      have := of_decide_eq_false this
      omega
    · have := h3 p (by omega) (by omega)
      unfold cU at this
      simp only [hl, decide_true, Bool.true_and, Bool.or_eq_false_iff] at this
      exact this
  · intro ⟨h1, h2, h3⟩
    refine ⟨fun p _ hp => ?_, fun b _ hb => ?_, fun p _ hp => ?_⟩
    · have := h1 p (by omega)
      unfold cH; exact decide_eq_false (by omega)
    · have := h2 b (by omega)
      unfold cW; exact decide_eq_false (by omega)
    · unfold cU
      by_cases c : 0 < L p
      · have := h3 p (by omega) c
        rw [this.1, this.2]; simp
      · simp [c]
theorem be_mono {T : Nat → Nat → Nat} {L L' : Nat → Nat} (h : ∀ p, L p ≤ L' p) (n b : Nat) : be T L n b ≤ be T L' n b := by
  induction n with
  | zero => exact Nat.le_refl _
  | succ n ih =>
    simp only [be]
    have h1 := h n
    have h2 : (L n + 1) / 2 ≤ (L' n + 1) / 2 := Nat.div_le_div_right (by omega)
    have h3 : L n / 2 ≤ L' n / 2 := Nat.div_le_div_right h1
    split <;> split <;> omega
theorem ld_mono {T : Nat → Nat → Nat} {u : Nat → Nat} (k p : Nat) : ld T u k p ≤ ld T u (k + 1) p := by simp only [ld]; omega
theorem hA_mono {T R : Nat → Nat → Nat} {u : Nat → Nat} (hT : zTb T) {k : Nat} (h : hA T R (ld T u (k + 1)) = true) : hA T R (ld T u k) = true := by
  rw [hA_iff hT] at h ⊢
  obtain ⟨h1, h2, h3⟩ := h
  refine ⟨fun p hp => ?_, fun b hb => ?_, fun p hp hl => ?_⟩
  · exact Nat.le_trans (ld_mono k p) (h1 p hp)
  · exact Nat.le_trans (be_mono (ld_mono k) _ _) (h2 b hb)
  · exact h3 p hp (Nat.lt_of_lt_of_le hl (ld_mono k p))
theorem hA_pre {T R : Nat → Nat → Nat} {u : Nat → Nat} (hT : zTb T) {k d : Nat} (h : hA T R (ld T u (k + d)) = true) : hA T R (ld T u k) = true := by
  induction d with
  | zero => exact h
  | succ d ih => exact ih (hA_mono hT h)
/-- what the class asks of a PLANK behind a child is laid on it -/
def fit (T : Nat → Nat → Nat) (L : Nat → Nat) (p : Nat) : Bool := decide (L p ≤ T 6 p ∧ be T L (T 0 1) (T 4 p) ≤ T 2 (T 4 p) ∧ be T L (T 0 1) (T 5 p) ≤ T 2 (T 5 p))
theorem hA_step {T R : Nat → Nat → Nat} {u : Nat → Nat} (hT : zTb T) {k : Nat} (hk : k < T 0 2) (hp : u k < T 0 1) (h : hA T R (ld T u k) = true) : hA T R (ld T u (k + 1)) = true ↔ (oB R (2 * u k) = false ∧ oB R (2 * u k + 1) = false) ∧ fit T (ld T u (k + 1)) (u k) = true := by
  obtain ⟨t1, t2, t3, t4, t5, t6⟩ := id hT
  have hw := t6 k hk
  have hab := t5 _ hp
  have hself : ld T u (k + 1) (u k) = ld T u k (u k) + T 7 k := by simp [ld, hp]
  have hoth : ∀ q, q ≠ u k → ld T u (k + 1) q = ld T u k q := by
    intro q hq
    simp only [ld]
    rw [if_neg (fun e => hq e.1.symm)]; rfl
  unfold fit
  rw [decide_eq_true_eq, hA_iff hT]
  rw [hA_iff hT] at h
  obtain ⟨g1, g2, g3⟩ := h
  constructor
  · intro ⟨h1, h2, h3⟩
    exact ⟨h3 _ hp (by omega), h1 _ hp, h2 _ hab.1, h2 _ hab.2.1⟩
  · intro ⟨h0, h1, h2, h3⟩
    refine ⟨fun p hp' => ?_, fun b hb => ?_, fun p hp' hl => ?_⟩
    · by_cases c : p = u k
      · rw [c]; exact h1
      · rw [hoth p c]; exact g1 p hp'
    · by_cases c4 : T 4 (u k) = b
      · rw [← c4]; exact h2
      · by_cases c5 : T 5 (u k) = b
        · rw [← c5]; exact h3
        · have e := be_set (T := T) (L := ld T u k) (m := ld T u k (u k) + T 7 k) (b := b) hp
          rw [ld_in hp, if_neg c4, if_neg c4, if_neg c5, if_neg c5] at e
          have := g2 b hb
          omega
    · by_cases c : p = u k
      · rw [c]; exact h0
      · rw [hoth p c] at hl; exact g3 p hp' hl
/-- the digits of a row -/
def dp (T : Nat → Nat → Nat) (c x j : Nat) : Nat := x / (T 0 1 + 1) ^ (c - 1 - j) % (T 0 1 + 1)
theorem dp_lt (T : Nat → Nat → Nat) (c x j : Nat) : dp T c x j < T 0 1 + 1 := Nat.mod_lt _ (by omega)
theorem dp_last {T : Nat → Nat → Nat} {c x p : Nat} (hp : p < T 0 1 + 1) : dp T (c + 1) (x * (T 0 1 + 1) + p) c = p := by
  unfold dp
  rw [show c + 1 - 1 - c = 0 by omega, Nat.pow_zero, Nat.div_one, Nat.add_comm, Nat.add_mul_mod_self_right, Nat.mod_eq_of_lt hp]
theorem dp_pre {T : Nat → Nat → Nat} {c x p j : Nat} (hp : p < T 0 1 + 1) (hj : j < c) : dp T (c + 1) (x * (T 0 1 + 1) + p) j = dp T c x j := by
  unfold dp
  rw [show c + 1 - 1 - j = (c - 1 - j) + 1 by omega, Nat.pow_succ, Nat.mul_comm ((T 0 1 + 1) ^ (c - 1 - j)), ← Nat.div_div_eq_div_mul, Nat.add_comm, Nat.add_mul_div_right _ _ (by omega), Nat.div_eq_of_lt hp, Nat.zero_add]
theorem dp_anc {T : Nat → Nat → Nat} {c n x r j : Nat} (hc : c ≤ n) (hj : j < c) (hr : r < (T 0 1 + 1) ^ (n - c)) : dp T n (x * (T 0 1 + 1) ^ (n - c) + r) j = dp T c x j := by
  unfold dp
  rw [show n - 1 - j = (n - c) + (c - 1 - j) by omega, Nat.pow_add, ← Nat.div_div_eq_div_mul, Nat.add_comm, Nat.add_mul_div_right _ _ (Nat.pow_pos (by omega)), Nat.div_eq_of_lt hr, Nat.zero_add]
theorem ld_congr {T : Nat → Nat → Nat} {u u' : Nat → Nat} {k : Nat} (h : ∀ j, j < k → u j = u' j) : ld T u k = ld T u' k := by
  induction k with
  | zero => rfl
  | succ k ih => funext p; simp only [ld]; rw [ih (fun j hj => h j (by omega)), h k (by omega)]
/-- what a row is worth -/
def sV (T : Nat → Nat → Nat) (wo : Nat → Int) (u : Nat → Nat) : Nat → Int
  | 0 => 0
  | k + 1 => sV T wo u k + (if u k < T 0 1 then wo k else 0)
theorem sV_congr {T : Nat → Nat → Nat} {wo : Nat → Int} {u u' : Nat → Nat} {k : Nat} (h : ∀ j, j < k → u j = u' j) : sV T wo u k = sV T wo u' k := by
  induction k with
  | zero => rfl
  | succ k ih => simp only [sV]; rw [ih (fun j hj => h j (by omega)), h k (by omega)]
def hpN (T : Nat → Nat → Nat) (wo : Nat → Int) : Nat → Int
  | 0 => 0
  | j + 1 => hpN T wo j + (if 0 < wo (T 0 2 - 1 - j) then wo (T 0 2 - 1 - j) else 0)
def hp (T : Nat → Nat → Nat) (wo : Nat → Int) (c : Nat) : Int := hpN T wo (T 0 2 - c)
def wOk (T : Nat → Nat → Nat) (wo : Nat → Int) : Prop := ∀ j, j < T 0 2 → -1 ≤ wo j ∧ wo j ≤ 89
theorem sV_b {T : Nat → Nat → Nat} {wo : Nat → Int} {u : Nat → Nat} (hw : wOk T wo) {k : Nat} (hk : k ≤ T 0 2) : -(k : Int) ≤ sV T wo u k ∧ sV T wo u k ≤ 89 * k := by
  induction k with
  | zero => simp [sV]
  | succ k ih =>
    have := ih (by omega)
    have := hw k (by omega)
    simp only [sV]; split <;> omega
theorem hpN_b {T : Nat → Nat → Nat} {wo : Nat → Int} (hw : wOk T wo) {j : Nat} (hj : j ≤ T 0 2) : 0 ≤ hpN T wo j ∧ hpN T wo j ≤ 89 * j := by
  induction j with
  | zero => simp [hpN]
  | succ j ih =>
    have := ih (by omega)
    have := hw (T 0 2 - 1 - j) (by omega)
    simp only [hpN]; split <;> omega
theorem sV_hp {T : Nat → Nat → Nat} {wo : Nat → Int} {u : Nat → Nat} : ∀ j, j ≤ T 0 2 → sV T wo u (T 0 2) ≤ sV T wo u (T 0 2 - j) + hpN T wo j := by
  intro j
  induction j with
  | zero => intro _; simp only [hpN, Nat.sub_zero]; omega
  | succ j ih =>
    intro h
    have h1 := ih (by omega)
    have e : sV T wo u (T 0 2 - j) = sV T wo u (T 0 2 - (j + 1)) + (if u (T 0 2 - (j + 1)) < T 0 1 then wo (T 0 2 - (j + 1)) else 0) := by
      rw [show T 0 2 - j = (T 0 2 - (j + 1)) + 1 by omega]; rfl
    rw [e] at h1
    simp only [hpN]
    rw [show T 0 2 - 1 - j = T 0 2 - (j + 1) by omega]
    by_cases c1 : u (T 0 2 - (j + 1)) < T 0 1 <;> by_cases c2 : 0 < wo (T 0 2 - (j + 1)) <;> simp only [c1, c2, if_true, if_false] at h1 ⊢ <;> omega
/-- the best of rows, in their order -/
def stp (f : Nat → Bool) (v : Nat → Int) (st : Int × Nat) (i : Nat) : Int × Nat := if f i = true ∧ st.1 < v i then (v i, i) else st
def fo (f : Nat → Bool) (v : Nat → Int) (a : Nat) : Nat → Int × Nat → Int × Nat
  | 0, st => st
  | n + 1, st => stp f v (fo f v a n st) (a + n)
theorem fo_add {f : Nat → Bool} {v : Nat → Int} {a n m : Nat} {st : Int × Nat} : fo f v a (n + m) st = fo f v (a + n) m (fo f v a n st) := by
  induction m with
  | zero => rfl
  | succ m ih =>
    have e : fo f v a (n + (m + 1)) st = stp f v (fo f v a (n + m) st) (a + (n + m)) := rfl
    rw [e, ih, show a + (n + m) = a + n + m by omega]; rfl
theorem fo_skip {f : Nat → Bool} {v : Nat → Int} {a n : Nat} {st : Int × Nat} (h : ∀ r, r < n → f (a + r) = true → v (a + r) ≤ st.1) : fo f v a n st = st := by
  induction n with
  | zero => rfl
  | succ n ih =>
    have e : fo f v a (n + 1) st = stp f v (fo f v a n st) (a + n) := rfl
    rw [e, ih (fun r hr => h r (by omega))]
    exact if_neg (fun c => by have := h n (by omega) c.1; omega)
theorem fo_b {f : Nat → Bool} {v : Nat → Int} {a n : Nat} {st : Int × Nat} (hv : ∀ i, v i < 1000) (h : st.1 < 1000) : st.1 ≤ (fo f v a n st).1 ∧ (fo f v a n st).1 < 1000 := by
  induction n with
  | zero => exact ⟨Int.le_refl _, h⟩
  | succ n ih =>
    have e : fo f v a (n + 1) st = stp f v (fo f v a n st) (a + n) := rfl
    rw [e]
    unfold stp
    split
    · rename_i c
      exact ⟨by show st.1 ≤ v (a + n); omega, hv _⟩
    · exact ih
theorem fo_ge {f : Nat → Bool} {v : Nat → Int} {a n i : Nat} {st : Int × Nat} (hi : i < n) (hf : f (a + i) = true) : v (a + i) ≤ (fo f v a n st).1 := by
  induction n with
  | zero => omega
  | succ n ih =>
    have e : fo f v a (n + 1) st = stp f v (fo f v a n st) (a + n) := rfl
    rw [e]
    unfold stp
    by_cases c : i = n
    · subst c
      split
      · exact Int.le_refl _
      · rename_i c2
        have : ¬ (fo f v a i st).1 < v (a + i) := fun h => c2 ⟨hf, h⟩
        omega
    · have := ih (by omega)
      split
      · rename_i c2
        show v (a + i) ≤ v (a + n); omega
      · exact this
/-- begun with less, the same is found, once it is no less than nothing -/
theorem fo_sim {f : Nat → Bool} {v : Nat → Int} {a n : Nat} {m1 : Int} {i1 i2 : Nat} (hm : m1 ≤ -1) : (0 ≤ (fo f v a n (m1, i1)).1 → fo f v a n (-1, i2) = fo f v a n (m1, i1)) ∧ ((fo f v a n (m1, i1)).1 < 0 → (fo f v a n (-1, i2)).1 = -1) := by
  induction n with
  | zero => exact ⟨fun h => by have h' : 0 ≤ m1 := h; omega, fun _ => rfl⟩
  | succ n ih =>
    have e1 : fo f v a (n + 1) (m1, i1) = stp f v (fo f v a n (m1, i1)) (a + n) := rfl
    have e2 : fo f v a (n + 1) (-1, i2) = stp f v (fo f v a n (-1, i2)) (a + n) := rfl
    rw [e1, e2]
    generalize fo f v a n (m1, i1) = p at ih ⊢
    generalize fo f v a n (-1, i2) = q at ih ⊢
    obtain ⟨ih1, ih2⟩ := ih
    unfold stp
    by_cases c : 0 ≤ p.1
    · have := ih1 c
      subst this
      by_cases c1 : f (a + n) = true ∧ q.1 < v (a + n)
      · rw [if_pos c1]
        exact ⟨fun _ => rfl, fun h => by have h' : v (a + n) < 0 := h; omega⟩
      · rw [if_neg c1]
        exact ⟨fun _ => rfl, fun h => by omega⟩
    · have h9 := ih2 (by omega)
      by_cases c1 : f (a + n) = true ∧ p.1 < v (a + n)
      · rw [if_pos c1]
        by_cases c2 : 0 ≤ v (a + n)
        · rw [if_pos ⟨c1.1, by omega⟩]
          exact ⟨fun _ => rfl, fun h => by have h' : v (a + n) < 0 := h; omega⟩
        · rw [if_neg (fun c3 => by have := c3.2; omega)]
          exact ⟨fun h => by have h' : 0 ≤ v (a + n) := h; omega, fun _ => h9⟩
      · rw [if_neg c1]
        by_cases c4 : f (a + n) = true
        · have : ¬ p.1 < v (a + n) := fun h => c1 ⟨c4, h⟩
          rw [if_neg (fun c3 => by have := c3.2; omega)]
          exact ⟨fun h => by omega, fun _ => h9⟩
        · rw [if_neg (fun c3 => c4 c3.1)]
          exact ⟨fun h => by omega, fun _ => h9⟩
/-- whether a row stands, what it is worth -/
def rF (T R : Nat → Nat → Nat) (i : Nat) : Bool := hA T R (ld T (dp T (T 0 2) i) (T 0 2))
def rV (T : Nat → Nat → Nat) (wo : Nat → Int) (i : Nat) : Int := sV T wo (dp T (T 0 2) i) (T 0 2)
theorem rV_b {T : Nat → Nat → Nat} {wo : Nat → Int} (hT : zTb T) (hw : wOk T wo) (i : Nat) : -5 ≤ rV T wo i ∧ rV T wo i < 1000 := by
  have := sV_b (u := dp T (T 0 2) i) hw (Nat.le_refl _)
  have := hT.2.2.1
  unfold rV; omega
/-- the last row, in which nobody stands -/
theorem last_dig {T : Nat → Nat → Nat} {n j : Nat} (hj : j < n) : dp T n ((T 0 1 + 1) ^ n - 1) j = T 0 1 := by
  unfold dp
  have hB : 0 < (T 0 1 + 1) ^ (n - 1 - j) := Nat.pow_pos (by omega)
  have e1 : (T 0 1 + 1) ^ n = (T 0 1 + 1) ^ (n - 1 - j) * (T 0 1 + 1) ^ (j + 1) := by rw [← Nat.pow_add]; congr 1; omega
  have e2 : (T 0 1 + 1) ^ (j + 1) = (T 0 1 + 1) ^ j * (T 0 1 + 1) := Nat.pow_succ ..
  have hJ : 0 < (T 0 1 + 1) ^ j := Nat.pow_pos (by omega)
  have hM : 0 < (T 0 1 + 1) ^ (j + 1) := Nat.pow_pos (by omega)
  have e3 : ((T 0 1 + 1) ^ n - 1) / (T 0 1 + 1) ^ (n - 1 - j) = (T 0 1 + 1) ^ (j + 1) - 1 := by
    rw [e1]
    generalize (T 0 1 + 1) ^ (n - 1 - j) = X at *
    generalize (T 0 1 + 1) ^ (j + 1) = Y at *
    obtain ⟨Y', rfl⟩ : ∃ Y', Y = Y' + 1 := ⟨Y - 1, by omega⟩
    rw [Nat.mul_add, Nat.mul_one, Nat.add_sub_cancel, show X * Y' + X - 1 = (X - 1) + X * Y' by omega, Nat.add_mul_div_left _ _ hB, Nat.div_eq_of_lt (by omega), Nat.zero_add]
  rw [e3, e2]
  generalize (T 0 1 + 1) ^ j = X at *
  obtain ⟨X', rfl⟩ : ∃ X', X = X' + 1 := ⟨X - 1, by omega⟩
  rw [Nat.add_mul, Nat.one_mul, show X' * (T 0 1 + 1) + (T 0 1 + 1) - 1 = T 0 1 + X' * (T 0 1 + 1) by omega, Nat.add_mul_mod_self_right, Nat.mod_eq_of_lt (by omega)]
theorem ld_none {T : Nat → Nat → Nat} {u : Nat → Nat} {k : Nat} (h : ∀ j, j < k → ¬ u j < T 0 1) : ld T u k = fun _ => 0 := by
  induction k with
  | zero => rfl
  | succ k ih => rw [ld_out (h k (by omega))]; exact ih (fun j hj => h j (by omega))
theorem sV_none {T : Nat → Nat → Nat} {wo : Nat → Int} {u : Nat → Nat} {k : Nat} (h : ∀ j, j < k → ¬ u j < T 0 1) : sV T wo u k = 0 := by
  induction k with
  | zero => rfl
  | succ k ih => simp only [sV]; rw [if_neg (h k (by omega)), ih (fun j hj => h j (by omega))]; rfl
theorem hA_0 {T R : Nat → Nat → Nat} (hT : zTb T) : hA T R (fun _ => 0) = true := by
  rw [hA_iff hT]
  exact ⟨fun p hp => Nat.zero_le _, fun b hb => by rw [be_0 (fun _ => rfl)]; exact Nat.zero_le _, fun p hp hl => by omega⟩
theorem fo_fin {T R : Nat → Nat → Nat} {wo : Nat → Int} {st : Int × Nat} (hT : zTb T) : 0 ≤ (fo (rF T R) (rV T wo) 0 ((T 0 1 + 1) ^ T 0 2) st).1 := by
  have hB : 0 < (T 0 1 + 1) ^ T 0 2 := Nat.pow_pos (by omega)
  have hd : ∀ j, j < T 0 2 → ¬ dp T (T 0 2) ((T 0 1 + 1) ^ T 0 2 - 1) j < T 0 1 := by
    intro j hj; rw [last_dig hj]; omega
  have h1 : rF T R ((T 0 1 + 1) ^ T 0 2 - 1) = true := by unfold rF; rw [ld_none hd]; exact hA_0 hT
  have h2 : rV T wo ((T 0 1 + 1) ^ T 0 2 - 1) = 0 := by unfold rV; exact sV_none hd
  have := fo_ge (f := rF T R) (v := rV T wo) (a := 0) (n := (T 0 1 + 1) ^ T 0 2) (i := (T 0 1 + 1) ^ T 0 2 - 1) (st := st) (by omega) (by rw [Nat.zero_add]; exact h1)
  rw [Nat.zero_add, h2] at this
  exact this
