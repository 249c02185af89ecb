/-! ORDERS: what can be laid next; barred -/
def bo (T : Nat → Nat → Nat) (p : Nat) : Nat := 2 ^ T 4 p ||| 2 ^ T 5 p
def rc (T : Nat → Nat → Nat) (s : Nat) : Nat → Nat
  | 0 => 1
  | k + 1 => rc T s k ||| (if s.testBit k = true then bo T k else 0)
theorem bo_lt {T : Nat → Nat → Nat} {p : Nat} (hT : zTb T) (hp : p < T 0 1) : bo T p < 2 ^ 8 := by
  obtain ⟨t1, t2, t3, t4, t5, t6⟩ := hT
  have h := t5 p hp
  exact Nat.or_lt_two_pow (Nat.pow_lt_pow_right (by omega) (by omega)) (Nat.pow_lt_pow_right (by omega) (by omega))
theorem rc_lt {T : Nat → Nat → Nat} {s k : Nat} (hT : zTb T) (hk : k ≤ T 0 1) : rc T s k < 2 ^ 8 := by
  induction k with
  | zero => simp [rc]
  | succ k ih =>
    simp only [rc]
    refine Nat.or_lt_two_pow (ih (by omega)) ?_
    split
    · exact bo_lt hT (by omega)
    · omega
theorem boughsOfX {T : Nat → Nat → Nat} {y : zkM} {p : Nat} (hT : zTb T) (hx : zTx T y.1) (hp : p < T 0 1) : fTree_boughsOf y (jN p) = some (jN (bo T p)) := by
  obtain ⟨t1, t2, t3, t4, t5, t6⟩ := hT
  have h := t5 p hp
  have x5 := hx.2.2.2.2.1 p hp
  unfold fTree_boughsOf
  simp (disch := omega) only [zk_let, Option.bind_some, cond_true, cond_false, if_true, if_false, zbF, zbT, within_in, jn9, k0, k1, k2, k3, k4, k5, k6, k7, k8, k9, k10, k12, k16, k17, k20, k29, k30, k31, k32, k36, k40, k41, k42, k48, k57, k59, k60, k64, k98, k99, k100, k112, k128, k200, k255, k256, k378, k420, k999, k1000000, jN_add, jN_mul, jN_clamp, jN_inbT, Bool.false_eq_true, Bool.true_eq_false, x5.1, x5.2.1, sh1, jN_or]
  rfl
theorem reachedX {T : Nat → Nat → Nat} {y : zkM} {s : Nat} (hT : zTb T) (hx : zTx T y.1) (hs : s < 64) : fLaying_reachedBy y (jN s) = some (jN (rc T s (T 0 1))) := by
  have t2 := hT.2.1
  unfold fLaying_reachedBy
  have := zl_eq (fun n (q : Int32 × Int32) => fLaying_reachedBy_L4 n y (jN s) q.1 q.2) (fun k => (jN (rc T s k), jN k)) (T 0 1) (jN (rc T s (T 0 1))) ?_ ?_ 500 (by omega)
  · rw [k0, k1]; dsimp only at this; rw [show rc T s 0 = 1 from rfl] at this; rw [this]; rfl
  · intro n k hk
    simp only [fLaying_reachedBy_L4]
    simp (disch := omega) only [zk_let, Option.bind_some, cond_true, cond_false, if_true, if_false, zbF, zbT, within_in, jn9, k0, k1, k2, k3, k4, k5, k6, k7, k8, k9, k10, k12, k16, k17, k20, k29, k30, k31, k32, k36, k40, k41, k42, k48, k57, k59, k60, k64, k98, k99, k100, k112, k128, k200, k255, k256, k378, k420, k999, k1000000, jN_add, jN_mul, jN_clamp, jN_inbT, Bool.false_eq_true, Bool.true_eq_false, hx.2.1, jN_le, shr_all s (by omega) k (by omega), boughsOfX hT hx hk, jN_or]
    rw [if_neg (by omega)]
    simp only [rc]
    cases s.testBit k
    · simp only [Bool.false_eq_true, if_false, if_true, Option.bind_some, Nat.or_zero]
    · simp only [if_true]
      rw [if_neg (by decide)]
      rfl
  · intro n
    simp only [fLaying_reachedBy_L4]
    simp (disch := omega) only [zk_let, Option.bind_some, cond_true, cond_false, if_true, if_false, zbF, zbT, within_in, jn9, k0, k1, k2, k3, k4, k5, k6, k7, k8, k9, k10, k12, k16, k17, k20, k29, k30, k31, k32, k36, k40, k41, k42, k48, k57, k59, k60, k64, k98, k99, k100, k112, k128, k200, k255, k256, k378, k420, k999, k1000000, jN_add, jN_mul, jN_clamp, jN_inbT, Bool.false_eq_true, Bool.true_eq_false, hx.2.1, jN_le]
    rw [if_pos (by omega)]
/-- whether p can be laid where s are -/
def ml (T : Nat → Nat → Nat) (s p : Nat) : Bool := !s.testBit p && ((rc T s (T 0 1)).testBit (T 4 p) || (rc T s (T 0 1)).testBit (T 5 p))
theorem and_bo (a b r : Nat) : (2 ^ a ||| 2 ^ b) &&& r = 0 ↔ (r.testBit a || r.testBit b) = false := by
  constructor
  · intro h
    have h1 := congrArg (fun v => v.testBit a) h
    have h2 := congrArg (fun v => v.testBit b) h
    simp only [Nat.testBit_and, Nat.testBit_or, Nat.testBit_two_pow, Nat.zero_testBit, decide_true, Bool.true_or, Bool.or_true, Bool.true_and] at h1 h2
    rw [h1, h2]; rfl
  · intro h
    rw [Bool.or_eq_false_iff] at h
    apply Nat.eq_of_testBit_eq
    intro i
    simp only [Nat.testBit_and, Nat.testBit_or, Nat.testBit_two_pow, Nat.zero_testBit]
    by_cases c1 : a = i
    · subst c1; rw [h.1]; simp
    · by_cases c2 : b = i
      · subst c2; rw [h.2]; simp
      · simp [c1, c2]
theorem canFollowX {T : Nat → Nat → Nat} {y : zkM} {s p : Nat} (hT : zTb T) (hx : zTx T y.1) (hs : s < 64) (hp : p < T 0 1) : fLaying_canFollow y (jN s) (jN (rc T s (T 0 1))) (jN p) = some (ml T s p) := by
  have t2 := hT.2.1
  have h1 := rc_lt (s := s) hT (Nat.le_refl (T 0 1))
  have h2 := bo_lt hT hp
  have h3 : bo T p &&& rc T s (T 0 1) ≤ bo T p := Nat.and_le_left
  unfold fLaying_canFollow ml
  simp (disch := omega) only [zk_let, Option.bind_some, cond_true, cond_false, if_true, if_false, zbF, zbT, within_in, jn9, k0, k1, k2, k3, k4, k5, k6, k7, k8, k9, k10, k12, k16, k17, k20, k29, k30, k31, k32, k36, k40, k41, k42, k48, k57, k59, k60, k64, k98, k99, k100, k112, k128, k200, k255, k256, k378, k420, k999, k1000000, jN_add, jN_mul, jN_clamp, jN_inbT, Bool.false_eq_true, Bool.true_eq_false, shr_all s (by omega) p (by omega), boughsOfX hT hx hp]
  simp (disch := omega) only [jN_and, jN_eq]
  cases s.testBit p
  · simp only [Bool.false_eq_true, if_false, if_true, Bool.not_false, Bool.true_and]
    unfold bo
    by_cases c : (2 ^ T 4 p ||| 2 ^ T 5 p) &&& rc T s (T 0 1) = 0
    · rw [if_pos c, (and_bo _ _ _).mp c]
    · rw [if_neg c]
      cases e : ((rc T s (T 0 1)).testBit (T 4 p) || (rc T s (T 0 1)).testBit (T 5 p)) with
      | true => rfl
      | false => exact absurd ((and_bo _ _ _).mpr e) c
  · simp only [if_true, Bool.not_true, Bool.false_and]
    rfl
theorem mayLay5 {T : Nat → Nat → Nat} {z : zkM} {s : Nat} (hT : zTb T) (hm : zTm T z.1) (hs : s < 64) : fMd_mayLay_L5 500 z (jN s) (jN 1) (jN 0) = some (jN (rc T s (T 0 1))) := by
  obtain ⟨t1, t2, t3, t4, t5, t6⟩ := id hT
  have := zl_eq (fun n (q : Int32 × Int32) => fMd_mayLay_L5 n z (jN s) q.1 q.2) (fun k => (jN (rc T s k), jN k)) (T 0 1) (jN (rc T s (T 0 1))) ?_ ?_ 500 (by omega)
  · exact this
  · intro n k hk
    have h := t5 k hk
    have m5 := hm.2.2.2.2.1 k hk
    simp only [fMd_mayLay_L5]
    rw [has_all (by omega) (by omega)]
    simp (disch := omega) only [zk_let, Option.bind_some, cond_true, cond_false, if_true, if_false, zbF, zbT, within_in, jn9, k0, k1, k2, k3, k4, k5, k6, k7, k8, k9, k10, k12, k16, k17, k20, k29, k30, k31, k32, k36, k40, k41, k42, k48, k57, k59, k60, k64, k98, k99, k100, k112, k128, k200, k255, k256, k378, k420, k999, k1000000, jN_add, jN_mul, jN_clamp, jN_inbT, Bool.false_eq_true, Bool.true_eq_false, hm.2.1, jN_le, m5.1, m5.2.1, sh1, jN_or]
    rw [if_neg (by omega)]
    simp only [rc, bo]
    cases s.testBit k
    · simp only [Bool.false_eq_true, if_false, if_true, Option.bind_some, jN_or]
    · simp only [if_true, Bool.true_eq_false, if_false, Option.bind_some, jN_or]
  · intro n
    simp only [fMd_mayLay_L5]
    simp (disch := omega) only [zk_let, Option.bind_some, cond_true, cond_false, if_true, if_false, zbF, zbT, within_in, jn9, k0, k1, k2, k3, k4, k5, k6, k7, k8, k9, k10, k12, k16, k17, k20, k29, k30, k31, k32, k36, k40, k41, k42, k48, k57, k59, k60, k64, k98, k99, k100, k112, k128, k200, k255, k256, k378, k420, k999, k1000000, jN_add, jN_mul, jN_clamp, jN_inbT, Bool.false_eq_true, Bool.true_eq_false, hm.2.1, jN_le]
    rw [if_pos (by omega)]
theorem mayLayM {T : Nat → Nat → Nat} {z : zkM} {s p : Nat} (hT : zTb T) (hm : zTm T z.1) (hs : s < 64) (hp : p < T 0 1) : fMd_mayLay z (jN s) (jN p) = some (ml T s p) := by
  obtain ⟨t1, t2, t3, t4, t5, t6⟩ := id hT
  have h := t5 p hp
  have m5 := hm.2.2.2.2.1 p hp
  have h1 := rc_lt (s := s) hT (Nat.le_refl (T 0 1))
  unfold fMd_mayLay ml
  rw [k0, k1, mayLay5 hT hm hs]
  simp only [Option.bind_some]
  rw [has_all (by omega) (by omega)]
  simp (disch := omega) only [zk_let, Option.bind_some, cond_true, cond_false, if_true, if_false, zbF, zbT, within_in, jn9, k0, k1, k2, k3, k4, k5, k6, k7, k8, k9, k10, k12, k16, k17, k20, k29, k30, k31, k32, k36, k40, k41, k42, k48, k57, k59, k60, k64, k98, k99, k100, k112, k128, k200, k255, k256, k378, k420, k999, k1000000, jN_add, jN_mul, jN_clamp, jN_inbT, Bool.false_eq_true, Bool.true_eq_false, m5.1, m5.2.1]
  rw [has_all (by omega) (by omega), has_all (by omega) (by omega)]
  cases s.testBit p <;> cases (rc T s (T 0 1)).testBit (T 4 p) <;> cases (rc T s (T 0 1)).testBit (T 5 p) <;> rfl
def sub (s t : Nat) : Prop := ∀ i, s.testBit i = true → t.testBit i = true
theorem rc_mono {T : Nat → Nat → Nat} {s t k : Nat} (h : sub s t) : sub (rc T s k) (rc T t k) := by
  induction k with
  | zero => intro i hi; exact hi
  | succ k ih =>
    intro i hi
    simp only [rc, Nat.testBit_or, Bool.or_eq_true] at hi ⊢
    rcases hi with hi | hi
    · exact Or.inl (ih i hi)
    · by_cases c : s.testBit k = true
      · rw [if_pos c] at hi; rw [if_pos (h k c)]; exact Or.inr hi
      · rw [if_neg c] at hi; simp at hi
theorem ml_mono {T : Nat → Nat → Nat} {s t p : Nat} (h : sub s t) (hp : ml T s p = true) : t.testBit p = true ∨ ml T t p = true := by
  cases e : t.testBit p with
  | true => exact Or.inl rfl
  | false =>
    right
    unfold ml at hp ⊢
    rw [Bool.and_eq_true, Bool.or_eq_true] at hp
    rw [e, Bool.and_eq_true, Bool.or_eq_true]
    refine ⟨rfl, ?_⟩
    rcases hp.2 with h1 | h1
    · exact Or.inl (rc_mono h _ h1)
    · exact Or.inr (rc_mono h _ h1)
theorem ml_new {T : Nat → Nat → Nat} {s p : Nat} (hp : ml T s p = true) : s.testBit p = false := by
  unfold ml at hp; rw [Bool.and_eq_true] at hp; simpa using hp.1
/-- the first, as a number; where none is, the end of the range -/
def fn (c : Nat → Bool) : Nat → Nat → Nat
  | j, 0 => j
  | j, n + 1 => if c j = true then j else fn c (j + 1) n
theorem fn_fa {c : Nat → Bool} : ∀ n j, fa c j n = if fn c j n < j + n then jN (fn c j n) else jNo := by
  intro n
  induction n with
  | zero => intro j; simp [fa, fn]
  | succ n ih =>
    intro j
    by_cases h : c j = true
    · have e1 : fn c j (n + 1) = j := if_pos h
      have e2 : fa c j (n + 1) = jN j := if_pos h
      rw [e1, e2, if_pos (by omega)]
    · have e1 : fn c j (n + 1) = fn c (j + 1) n := if_neg h
      have e2 : fa c j (n + 1) = fa c (j + 1) n := if_neg h
      rw [e1, e2, ih (j + 1), show j + 1 + n = j + (n + 1) by omega]
theorem fn_yes {c : Nat → Bool} : ∀ n j, fn c j n < j + n → c (fn c j n) = true ∧ j ≤ fn c j n ∧ ∀ k, j ≤ k → k < fn c j n → c k = false := by
  intro n
  induction n with
  | zero => intro j h; simp only [fn] at h; omega
  | succ n ih =>
    intro j h
    simp only [fn] at h ⊢
    by_cases hc : c j = true
    · rw [if_pos hc] at h ⊢; exact ⟨hc, Nat.le_refl _, fun k h1 h2 => by omega⟩
    · rw [if_neg hc] at h ⊢
      obtain ⟨i1, i2, i3⟩ := ih (j + 1) (by omega)
      refine ⟨i1, by omega, fun k h1 h2 => ?_⟩
      by_cases e : k = j
      · subst e; simpa using hc
      · exact i3 k (by omega) h2
theorem fn_not {c : Nat → Bool} : ∀ n j, ¬ fn c j n < j + n → ∀ k, j ≤ k → k < j + n → c k = false := by
  intro n
  induction n with
  | zero => intro j h k h1 h2; omega
  | succ n ih =>
    intro j h k h1 h2
    simp only [fn] at h
    by_cases hc : c j = true
    · rw [if_pos hc] at h; omega
    · rw [if_neg hc] at h
      by_cases e : k = j
      · subst e; simpa using hc
      · exact ih (j + 1) (by omega) k (by omega) (by omega)
def nxt (T : Nat → Nat → Nat) (s : Nat) : Nat := fn (ml T s) 0 (T 0 1)
/-- the class's way: the least that can be laid, k times -/
def gr (T : Nat → Nat → Nat) : Nat → Nat
  | 0 => 0
  | k + 1 => if nxt T (gr T k) < T 0 1 then gr T k ||| 2 ^ nxt T (gr T k) else gr T k
theorem gr_lt (T : Nat → Nat → Nat) (k : Nat) : gr T k < 2 ^ T 0 1 := by
  induction k with
  | zero => exact Nat.two_pow_pos _
  | succ k ih =>
    simp only [gr]
    split
    · exact Nat.or_lt_two_pow ih (Nat.pow_lt_pow_right (by omega) (by assumption))
    · exact ih
theorem gr_64 {T : Nat → Nat → Nat} (hT : zTb T) (k : Nat) : gr T k < 64 := by
  have h1 := gr_lt T k
  have h2 : 2 ^ T 0 1 ≤ 2 ^ 6 := Nat.pow_le_pow_right (by omega) hT.2.1
  omega
theorem bit_lt {s P i : Nat} (h : s < 2 ^ P) (hi : s.testBit i = true) : i < P := by
  by_cases c : i < P
  · exact c
  · have h1 : 2 ^ P ≤ 2 ^ i := Nat.pow_le_pow_right (by omega) (by omega)
    rw [Nat.testBit_lt_two_pow (by omega)] at hi
    cases hi
theorem leastX {T : Nat → Nat → Nat} {y : zkM} {s : Nat} (hT : zTb T) (hx : zTx T y.1) (hs : s < 64) : fLaying_leastNext y (jN s) = some (fa (ml T s) 0 (T 0 1)) := by
  have t2 := hT.2.1
  unfold fLaying_leastNext
  rw [reachedX hT hx hs, jNo_def, k0]
  simp only [Option.bind_some]
  refine fa_up (fun n k => fLaying_leastNext_L8 n y (jN s) (jN (rc T s (T 0 1))) (jN k)) (ml T s) (T 0 1) ?_ ?_ (T 0 1) 0 500 (by omega) (by omega)
  · intro n k hk
    simp only [fLaying_leastNext_L8, canFollowX hT hx hs hk]
    simp (disch := omega) only [zk_let, Option.bind_some, cond_true, cond_false, if_true, if_false, zbF, zbT, within_in, jn9, k0, k1, k2, k3, k4, k5, k6, k7, k8, k9, k10, k12, k16, k17, k20, k29, k30, k31, k32, k36, k40, k41, k42, k48, k57, k59, k60, k64, k98, k99, k100, k112, k128, k200, k255, k256, k378, k420, k999, k1000000, jN_add, jN_mul, jN_clamp, jN_inbT, Bool.false_eq_true, Bool.true_eq_false, hx.2.1, jN_le]
    rw [if_neg (by omega)]
    cases ml T s k <;> rfl
  · intro n
    simp only [fLaying_leastNext_L8]
    simp (disch := omega) only [zk_let, Option.bind_some, cond_true, cond_false, if_true, if_false, zbF, zbT, within_in, jn9, k0, k1, k2, k3, k4, k5, k6, k7, k8, k9, k10, k12, k16, k17, k20, k29, k30, k31, k32, k36, k40, k41, k42, k48, k57, k59, k60, k64, k98, k99, k100, k112, k128, k200, k255, k256, k378, k420, k999, k1000000, jN_add, jN_mul, jN_clamp, jN_inbT, Bool.false_eq_true, Bool.true_eq_false, hx.2.1, jN_le]
    rw [if_pos (by omega)]
theorem leastX2 {T : Nat → Nat → Nat} {y : zkM} {s : Nat} (hT : zTb T) (hx : zTx T y.1) (hs : s < 64) : fLaying_leastNext y (jN s) = some (if nxt T s < T 0 1 then jN (nxt T s) else jNo) := by
  rw [leastX hT hx hs, fn_fa, Nat.zero_add]; rfl
theorem gr_in {T : Nat → Nat → Nat} {k : Nat} (h : nxt T (gr T k) < T 0 1) : gr T (k + 1) = gr T k ||| 2 ^ nxt T (gr T k) := if_pos h
theorem gr_out {T : Nat → Nat → Nat} {k : Nat} (h : ¬ nxt T (gr T k) < T 0 1) : gr T (k + 1) = gr T k := if_neg h
theorem neverX4 {T : Nat → Nat → Nat} {y : zkM} (hT : zTb T) (hx : zTx T y.1) : fLaying_neverLaid_L4 500 y (jN 0) (jN 0) = some (jN (gr T (T 0 1))) := by
  have t2 := hT.2.1
  have := zl_eq (fun n (q : Int32 × Int32) => fLaying_neverLaid_L4 n y q.1 q.2) (fun k => (jN (gr T k), jN k)) (T 0 1) (jN (gr T (T 0 1))) ?_ ?_ 500 (by omega)
  · exact this
  · intro n k hk
    simp only [fLaying_neverLaid_L4, leastX2 hT hx (gr_64 hT k)]
    simp (disch := omega) only [zk_let, Option.bind_some, cond_true, cond_false, if_true, if_false, zbF, zbT, within_in, jn9, k0, k1, k2, k3, k4, k5, k6, k7, k8, k9, k10, k12, k16, k17, k20, k29, k30, k31, k32, k36, k40, k41, k42, k48, k57, k59, k60, k64, k98, k99, k100, k112, k128, k200, k255, k256, k378, k420, k999, k1000000, jN_add, jN_mul, jN_clamp, jN_inbT, Bool.false_eq_true, Bool.true_eq_false, hx.2.1, jN_le]
    rw [if_neg (by omega)]
    by_cases c : nxt T (gr T k) < T 0 1
    · rw [gr_in c, if_pos c, if_neg (jN_no (by omega)), sh1 (by omega), jN_or]
    · rw [gr_out c, if_neg c, if_pos rfl]
  · intro n
    simp only [fLaying_neverLaid_L4]
    simp (disch := omega) only [zk_let, Option.bind_some, cond_true, cond_false, if_true, if_false, zbF, zbT, within_in, jn9, k0, k1, k2, k3, k4, k5, k6, k7, k8, k9, k10, k12, k16, k17, k20, k29, k30, k31, k32, k36, k40, k41, k42, k48, k57, k59, k60, k64, k98, k99, k100, k112, k128, k200, k255, k256, k378, k420, k999, k1000000, jN_add, jN_mul, jN_clamp, jN_inbT, Bool.false_eq_true, Bool.true_eq_false, hx.2.1, jN_le]
    rw [if_pos (by omega)]
/-- the model's way: all that can be laid, k times -/
def bR (T : Nat → Nat → Nat) : Nat → Nat
  | 0 => 0
  | k + 1 => bR T k ||| bs (ml T (bR T k)) (T 0 1)
theorem bR_lt (T : Nat → Nat → Nat) (k : Nat) : bR T k < 2 ^ T 0 1 := by
  induction k with
  | zero => exact Nat.two_pow_pos _
  | succ k ih => simp only [bR]; exact Nat.or_lt_two_pow ih (bs_lt _ _)
theorem bR_64 {T : Nat → Nat → Nat} (hT : zTb T) (k : Nat) : bR T k < 64 := by
  have h1 := bR_lt T k
  have h2 : 2 ^ T 0 1 ≤ 2 ^ 6 := Nat.pow_le_pow_right (by omega) hT.2.1
  omega
theorem barred17 {T : Nat → Nat → Nat} {z : zkM} {s : Nat} (hT : zTb T) (hm : zTm T z.1) (hs : s < 64) : fMd_barred_L17 500 z (jN s) (jN s) (jN 0) = some (jN (s ||| bs (ml T s) (T 0 1))) := by
  have t2 := hT.2.1
  have := zl_eq (fun n (q : Int32 × Int32) => fMd_barred_L17 n z (jN s) q.1 q.2) (fun k => (jN (s ||| bs (ml T s) k), jN k)) (T 0 1) (jN (s ||| bs (ml T s) (T 0 1))) ?_ ?_ 500 (by omega)
  · dsimp only at this; rw [show bs (ml T s) 0 = 0 from rfl, Nat.or_zero] at this; exact this
  · intro n k hk
    simp only [fMd_barred_L17, mayLayM hT hm hs hk]
    simp (disch := omega) only [zk_let, Option.bind_some, cond_true, cond_false, if_true, if_false, zbF, zbT, within_in, jn9, k0, k1, k2, k3, k4, k5, k6, k7, k8, k9, k10, k12, k16, k17, k20, k29, k30, k31, k32, k36, k40, k41, k42, k48, k57, k59, k60, k64, k98, k99, k100, k112, k128, k200, k255, k256, k378, k420, k999, k1000000, jN_add, jN_mul, jN_clamp, jN_inbT, Bool.false_eq_true, Bool.true_eq_false, hm.2.1, jN_le, sh1]
    rw [if_neg (by omega)]
    simp only [bs]
    cases ml T s k
    · simp only [Bool.false_eq_true, if_true, if_false, jN_or, Nat.or_zero]
    · simp only [Bool.true_eq_false, if_true, if_false, jN_or, Nat.or_assoc]
  · intro n
    simp only [fMd_barred_L17]
    simp (disch := omega) only [zk_let, Option.bind_some, cond_true, cond_false, if_true, if_false, zbF, zbT, within_in, jn9, k0, k1, k2, k3, k4, k5, k6, k7, k8, k9, k10, k12, k16, k17, k20, k29, k30, k31, k32, k36, k40, k41, k42, k48, k57, k59, k60, k64, k98, k99, k100, k112, k128, k200, k255, k256, k378, k420, k999, k1000000, jN_add, jN_mul, jN_clamp, jN_inbT, Bool.false_eq_true, Bool.true_eq_false, hm.2.1, jN_le]
    rw [if_pos (by omega)]
theorem barred4 {T : Nat → Nat → Nat} {z : zkM} (hT : zTb T) (hm : zTm T z.1) : fMd_barred_L4 500 z (jN 0) (jN 0) = some (jN (bR T (T 0 1))) := by
  have t2 := hT.2.1
  have := zl_eq (fun n (q : Int32 × Int32) => fMd_barred_L4 n z q.1 q.2) (fun k => (jN (bR T k), jN k)) (T 0 1) (jN (bR T (T 0 1))) ?_ ?_ 500 (by omega)
  · exact this
  · intro n k hk
    simp only [fMd_barred_L4, k0, barred17 hT hm (bR_64 hT k)]
    simp (disch := omega) only [zk_let, Option.bind_some, cond_true, cond_false, if_true, if_false, zbF, zbT, within_in, jn9, k0, k1, k2, k3, k4, k5, k6, k7, k8, k9, k10, k12, k16, k17, k20, k29, k30, k31, k32, k36, k40, k41, k42, k48, k57, k59, k60, k64, k98, k99, k100, k112, k128, k200, k255, k256, k378, k420, k999, k1000000, jN_add, jN_mul, jN_clamp, jN_inbT, Bool.false_eq_true, Bool.true_eq_false, hm.2.1, jN_le]
    rw [if_neg (by omega)]
    rfl
  · intro n
    simp only [fMd_barred_L4]
    simp (disch := omega) only [zk_let, Option.bind_some, cond_true, cond_false, if_true, if_false, zbF, zbT, within_in, jn9, k0, k1, k2, k3, k4, k5, k6, k7, k8, k9, k10, k12, k16, k17, k20, k29, k30, k31, k32, k36, k40, k41, k42, k48, k57, k59, k60, k64, k98, k99, k100, k112, k128, k200, k255, k256, k378, k420, k999, k1000000, jN_add, jN_mul, jN_clamp, jN_inbT, Bool.false_eq_true, Bool.true_eq_false, hm.2.1, jN_le]
    rw [if_pos (by omega)]
theorem pc_or : ∀ s, s < 64 → ∀ p, p < 6 → s.testBit p = false → pc (s ||| 2 ^ p) = pc s + 1 := by decide +kernel
theorem pc_full : ∀ P, P < 7 → ∀ s, s < 64 → s < 2 ^ P → pc s ≤ P ∧ (pc s = P → s = 2 ^ P - 1) := by decide +kernel
def clo (T : Nat → Nat → Nat) (s : Nat) : Prop := ∀ p, p < T 0 1 → ml T s p = false
theorem gr_or {T : Nat → Nat → Nat} (hT : zTb T) (k : Nat) : pc (gr T k) = k ∨ clo T (gr T k) := by
  have t2 := hT.2.1
  induction k with
  | zero => left; exact (by decide : pc 0 = 0)
  | succ k ih =>
    simp only [gr]
    by_cases c : nxt T (gr T k) < T 0 1
    · rw [if_pos c]
      have hy : ml T (gr T k) (nxt T (gr T k)) = true := (fn_yes (c := ml T (gr T k)) (T 0 1) 0 (by rw [Nat.zero_add]; exact c)).1
      rcases ih with h | h
      · left
        rw [pc_or _ (gr_64 hT k) _ (by omega) (ml_new hy), h]
      · rw [h _ c] at hy; cases hy
    · rw [if_neg c]
      right
      intro p hp
      exact fn_not (c := ml T (gr T k)) (T 0 1) 0 (by rw [Nat.zero_add]; exact c) p (by omega) (by omega)
theorem full_bit {P p : Nat} (hp : p < P) : (2 ^ P - 1).testBit p = true := by
  rw [Nat.testBit_two_pow_sub_one]; simp [hp]
theorem full_clo {T : Nat → Nat → Nat} : clo T (2 ^ T 0 1 - 1) := by
  intro p hp
  unfold ml
  rw [full_bit hp]; rfl
theorem gr_clo {T : Nat → Nat → Nat} (hT : zTb T) : clo T (gr T (T 0 1)) := by
  have t2 := hT.2.1
  rcases gr_or hT (T 0 1) with h | h
  · have := (pc_full (T 0 1) (by omega) _ (gr_64 hT _) (gr_lt T _)).2 h
    rw [this]; exact full_clo
  · exact h
theorem sub_or_l {s a b : Nat} (h : sub s a) : sub s (a ||| b) := by intro i hi; rw [Nat.testBit_or, h i hi]; rfl
theorem gr_bR {T : Nat → Nat → Nat} (k : Nat) : sub (gr T k) (bR T k) := by
  induction k with
  | zero => intro i hi; exact hi
  | succ k ih =>
    simp only [gr, bR]
    by_cases c : nxt T (gr T k) < T 0 1
    · rw [if_pos c]
      have hy : ml T (gr T k) (nxt T (gr T k)) = true := (fn_yes (c := ml T (gr T k)) (T 0 1) 0 (by rw [Nat.zero_add]; exact c)).1
      intro i hi
      rw [Nat.testBit_or, Bool.or_eq_true] at hi
      rcases hi with hi | hi
      · exact sub_or_l ih i hi
      · rw [Nat.testBit_two_pow] at hi
        have e : nxt T (gr T k) = i := by simpa using hi
        rw [Nat.testBit_or, Bool.or_eq_true, bs_bit]
        rcases ml_mono ih hy with h | h
        · left; rw [← e]; exact h
        · right
          rw [Bool.and_eq_true]
          exact ⟨by simp; omega, by rw [← e]; exact h⟩
    · rw [if_neg c]; exact sub_or_l ih
/-- what is closed holds all that the one or the other way lays -/
theorem bR_clo {T : Nat → Nat → Nat} {t : Nat} (h : clo T t) (k : Nat) : sub (bR T k) t := by
  induction k with
  | zero => intro i hi; simp [bR] at hi
  | succ k ih =>
    intro i hi
    simp only [bR, Nat.testBit_or, Bool.or_eq_true, bs_bit, Bool.and_eq_true, decide_eq_true_eq] at hi
    rcases hi with hi | ⟨h1, h2⟩
    · exact ih i hi
    · rcases ml_mono ih h2 with h3 | h3
      · exact h3
      · rw [h i h1] at h3; cases h3
theorem gr_eq {T : Nat → Nat → Nat} (hT : zTb T) : bR T (T 0 1) = gr T (T 0 1) := by
  apply Nat.eq_of_testBit_eq
  intro i
  cases e1 : (bR T (T 0 1)).testBit i with
  | true => exact (bR_clo (gr_clo hT) _ i e1).symm
  | false =>
    cases e2 : (gr T (T 0 1)).testBit i with
    | false => rfl
    | true => rw [gr_bR _ i e2] at e1; cases e1
theorem pr_barred {y z : zkM} (h : zRel y z) : ∃ v y' z', sX_barred y v y' ∧ sM_barred z v z' ∧ zRel y' z' := by
  obtain ⟨T, R, hA⟩ := h.all
  obtain ⟨hT, hx, hm, -⟩ := id hA
  refine ⟨((jN 1 <<< (jN (T 0 1) &&& jN 31)) - jN 1) &&& (jN (gr T (T 0 1)) ^^^ -jN 1), y, z, ⟨?_, rfl⟩, ⟨?_, rfl⟩, h⟩
  · unfold fTp_barred fLaying_neverLaid
    rw [k0, neverX4 hT hx, hx.2.1, k1, k31]; rfl
  · unfold fMd_barred
    rw [k0, barred4 hT hm, hm.2.1, gr_eq hT, k1, k31]; rfl
