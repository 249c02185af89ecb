/-! THE FIRST THAT IS SO: the class looks upwards, the model downwards -/
def fa (c : Nat → Bool) : Nat → Nat → Int32
  | _, 0 => jNo
  | j, n + 1 => if c j = true then jN j else fa c (j + 1) n
theorem fa_no {c : Nat → Bool} : ∀ n j, j + n < 1000 → (fa c j n = jNo ↔ ∀ k, j ≤ k → k < j + n → c k = false) := by
  intro n
  induction n with
  | zero => intro j h; simp only [fa, true_iff]; intro k h1 h2; omega
  | succ n ih =>
    intro j h
    simp only [fa]
    by_cases c1 : c j = true
    · rw [if_pos c1]
      constructor
      · intro e; exact absurd e (jN_no (by omega))
      · intro hh; have := hh j (by omega) (by omega); rw [c1] at this; cases this
    · rw [if_neg c1, ih (j + 1) (by omega)]
      constructor
      · intro hh k h1 h2
        by_cases e : k = j
        · subst e; simpa using c1
        · exact hh k (by omega) (by omega)
      · intro hh k h1 h2; exact hh k (by omega) (by omega)
theorem fa_congr {c d : Nat → Bool} : ∀ n j, (∀ k, j ≤ k → k < j + n → c k = d k) → fa c j n = fa d j n := by
  intro n
  induction n with
  | zero => intro j h; rfl
  | succ n ih => intro j h; simp only [fa]; rw [h j (by omega) (by omega), ih (j + 1) (fun k h1 h2 => h k (by omega) (by omega))]
theorem fa_up (f : Nat → Nat → Option (Int32 ⊕ Unit)) (c : Nat → Bool) (K : Nat) (hs : ∀ n k, k < K → f (n + 1) k = if c k = true then some (.inl (jN k)) else f n (k + 1)) (he : ∀ n, f (n + 1) K = some (.inr ())) : ∀ j k n, k + j = K → j < n → (f n k).bind (fun q1 => Sum.elim (fun y => some y) (fun _ => some jNo) q1) = some (fa c k j) := by
  intro j
  induction j with
  | zero =>
    intro k n hk hn
    cases n with
    | zero => omega
    | succ n => rw [show k = K by omega, he]; rfl
  | succ j ih =>
    intro k n hk hn
    cases n with
    | zero => omega
    | succ n =>
      rw [hs n k (by omega)]
      simp only [fa]
      by_cases c1 : c k = true
      · rw [if_pos c1, if_pos c1]; rfl
      · rw [if_neg c1, if_neg c1]; exact ih (k + 1) n (by omega) (by omega)
theorem fa_dn (f : Nat → Int32 → Nat → Option Int32) (c : Nat → Bool) (K : Nat) (hs : ∀ n v k, k < K → f (n + 1) v (k + 1) = f n (if c k = true then jN k else v) k) (he : ∀ n v, f (n + 1) v 0 = some v) : ∀ k n, k ≤ K → k < n → f n (fa c k (K - k)) k = some (fa c 0 K) := by
  intro k
  induction k with
  | zero =>
    intro n hk hn
    cases n with
    | zero => omega
    | succ n => rw [he]; rfl
  | succ k ih =>
    intro n hk hn
    cases n with
    | zero => omega
    | succ n =>
      rw [hs n _ k (by omega)]
      have := ih n (by omega) (by omega)
      rw [show K - k = (K - (k + 1)) + 1 by omega] at this
      exact this
/-- the index of a downward loop: one less than k -/
def dn (k : Nat) : Int32 := iI ((k : Int) - 1)
theorem dn_s (k : Nat) : dn (k + 1) = jN k := by unfold dn jN; congr 1; omega
theorem dn_m (k : Nat) : jN k + -jN 1 = dn k := by unfold dn jN; rw [iI_neg, iI_add]; congr 1
theorem dn_f (k : Nat) : jN k - jN 1 = dn k := by unfold dn jN; rw [iI_sub]; congr 1
theorem dn_0 : dn 0 < 0 := by decide
def cH (T : Nat → Nat → Nat) (L : Nat → Nat) (p : Nat) : Bool := decide (T 6 p < L p)
def cW (T : Nat → Nat → Nat) (L : Nat → Nat) (b : Nat) : Bool := decide (T 2 b < be T L (T 0 1) b)
def cU (R : Nat → Nat → Nat) (L : Nat → Nat) (p : Nat) : Bool := decide (0 < L p) && (oB R (2 * p) || oB R (2 * p + 1))
def hA (T R : Nat → Nat → Nat) (L : Nat → Nat) : Bool := decide (fa (cH T L) 0 (T 0 1) = jNo) && (decide (fa (cW T L) 0 (T 0 0) = jNo) && decide (fa (cU R L) 0 (T 0 1) = jNo))
theorem be_lt {T : Nat → Nat → Nat} {L : Nat → Nat} (hT : zTb T) (hl : ∀ p, p < T 0 1 → L p < 1000) (b : Nat) : be T L (T 0 1) b < 100000 := by
  have := be_le (T := T) (L := L) (M := 1000) (T 0 1) b (fun p hp => by have := hl p hp; omega)
  have t2 := hT.2.1
  omega
theorem laden_spec {T : Nat → Nat → Nat} {L : Nat → Nat} {y : zkM} (hT : zTb T) (hx : zTx T y.1) (h : zLd T L (y.1 7) (y.1 8)) (hl : ∀ p, p < T 0 1 → L p < 1000) : fBurden_firstTooLaden y = some (fa (cH T L) 0 (T 0 1)) := by
  obtain ⟨t1, t2, t3, t4, t5, t6⟩ := id hT
  unfold fBurden_firstTooLaden
  rw [jNo_def, k0]
  refine fa_up (fun n k => fBurden_firstTooLaden_L2 n y (jN k)) (cH T L) (T 0 1) ?_ ?_ (T 0 1) 0 500 (by omega) (by omega)
  · intro n k hk
    have h1 := t5 k hk
    have h2 := hl k hk
    simp only [fBurden_firstTooLaden_L2]
    simp (disch := omega) only [zk_let, Option.bind_some, cond_true, cond_false, if_true, if_false, zbF, zbT, within_in, jn9, k0, k1, k2, k3, k4, k5, k6, k7, k8, k9, k10, k12, k16, k17, k20, k29, k30, k31, k32, k36, k40, k41, k42, k48, k57, k59, k60, k64, k98, k99, k100, k112, k128, k200, k255, k256, k378, k420, k999, k1000000, jN_add, jN_mul, jN_clamp, jN_inbT, Bool.false_eq_true, Bool.true_eq_false, hx.2.1, jN_le, h.1 k hk, (hx.2.2.2.2.1 k hk).2.2]
    rw [if_neg (by omega)]
    by_cases c : T 6 k < L k
    · rw [if_neg (by omega), if_pos (show cH T L k = true from decide_eq_true c)]
    · rw [if_pos (by omega), if_neg (show ¬ cH T L k = true by simp [cH, c])]
  · intro n
    simp only [fBurden_firstTooLaden_L2]
    simp (disch := omega) only [zk_let, Option.bind_some, cond_true, cond_false, if_true, if_false, zbF, zbT, within_in, jn9, k0, k1, k2, k3, k4, k5, k6, k7, k8, k9, k10, k12, k16, k17, k20, k29, k30, k31, k32, k36, k40, k41, k42, k48, k57, k59, k60, k64, k98, k99, k100, k112, k128, k200, k255, k256, k378, k420, k999, k1000000, jN_add, jN_mul, jN_clamp, jN_inbT, Bool.false_eq_true, Bool.true_eq_false, hx.2.1, jN_le]
    rw [if_pos (by omega)]
theorem bent_spec {T : Nat → Nat → Nat} {L : Nat → Nat} {y : zkM} (hT : zTb T) (hx : zTx T y.1) (h : zLd T L (y.1 7) (y.1 8)) (hl : ∀ p, p < T 0 1 → L p < 1000) : fBurden_firstTooBent y = some (fa (cW T L) 0 (T 0 0)) := by
  obtain ⟨t1, t2, t3, t4, t5, t6⟩ := id hT
  unfold fBurden_firstTooBent
  rw [jNo_def, k0]
  refine fa_up (fun n k => fBurden_firstTooBent_L2 n y (jN k)) (cW T L) (T 0 0) ?_ ?_ (T 0 0) 0 500 (by omega) (by omega)
  · intro n k hk
    have h1 := t4 k hk
    have h2 := be_lt hT hl k
    simp only [fBurden_firstTooBent_L2]
    simp (disch := omega) only [zk_let, Option.bind_some, cond_true, cond_false, if_true, if_false, zbF, zbT, within_in, jn9, k0, k1, k2, k3, k4, k5, k6, k7, k8, k9, k10, k12, k16, k17, k20, k29, k30, k31, k32, k36, k40, k41, k42, k48, k57, k59, k60, k64, k98, k99, k100, k112, k128, k200, k255, k256, k378, k420, k999, k1000000, jN_add, jN_mul, jN_clamp, jN_inbT, Bool.false_eq_true, Bool.true_eq_false, hx.1, jN_le, h.2 k hk, (hx.2.2.2.1 k hk).2.1]
    rw [if_neg (by omega)]
    by_cases c : T 2 k < be T L (T 0 1) k
    · rw [if_neg (by omega), if_pos (show cW T L k = true from decide_eq_true c)]
    · rw [if_pos (by omega), if_neg (show ¬ cW T L k = true by simp [cW]; omega)]
  · intro n
    simp only [fBurden_firstTooBent_L2]
    simp (disch := omega) only [zk_let, Option.bind_some, cond_true, cond_false, if_true, if_false, zbF, zbT, within_in, jn9, k0, k1, k2, k3, k4, k5, k6, k7, k8, k9, k10, k12, k16, k17, k20, k29, k30, k31, k32, k36, k40, k41, k42, k48, k57, k59, k60, k64, k98, k99, k100, k112, k128, k200, k255, k256, k378, k420, k999, k1000000, jN_add, jN_mul, jN_clamp, jN_inbT, Bool.false_eq_true, Bool.true_eq_false, hx.1, jN_le]
    rw [if_pos (by omega)]
theorem both_spec {T R : Nat → Nat → Nat} {y : zkM} {p : Nat} (hT : zTb T) (hS : zEb T R) (sx : zSx T R (y.1 5)) (hp : p < T 0 1) : fScene_hasBothEnds y (jN p) = some (!(oB R (2 * p) || oB R (2 * p + 1))) := by
  have t2 := hT.2.1
  have e1 : fScene_isOut y (jN (2 * p)) = some (oB R (2 * p)) := isOut_spec (by omega) (sx.2.2 (2 * p) (by omega)).2.2 (hS (2 * p) (by omega)).2.2.1
  have e2 : fScene_isOut y (jN (2 * p + 1)) = some (oB R (2 * p + 1)) := isOut_spec (by omega) (sx.2.2 (2 * p + 1) (by omega)).2.2 (hS (2 * p + 1) (by omega)).2.2.1
  unfold fScene_hasBothEnds
  simp only [zk_let, Option.bind_some, cond_true, cond_false, if_true, if_false, zbF, zbT, within_in, jn9, k0, k1, k2, k3, k4, k5, k6, k7, k8, k9, k10, k12, k16, k17, k20, k29, k30, k31, k32, k36, k40, k41, k42, k48, k57, k59, k60, k64, k98, k99, k100, k112, k128, k200, k255, k256, k378, k420, k999, k1000000, jN_add, jN_mul, jN_clamp, jN_inbT, Bool.false_eq_true, Bool.true_eq_false, e1, e2]
  cases oB R (2 * p) <;> cases oB R (2 * p + 1) <;> rfl
theorem unheld_spec {T R : Nat → Nat → Nat} {L : Nat → Nat} {y : zkM} (hT : zTb T) (hx : zTx T y.1) (h : zLd T L (y.1 7) (y.1 8)) (hl : ∀ p, p < T 0 1 → L p < 1000) (hS : zEb T R) (sx : zSx T R (y.1 5)) : fBurden_firstUnheld y = some (fa (cU R L) 0 (T 0 1)) := by
  obtain ⟨t1, t2, t3, t4, t5, t6⟩ := id hT
  unfold fBurden_firstUnheld
  rw [jNo_def, k0]
  refine fa_up (fun n k => fBurden_firstUnheld_L2 n y (jN k)) (cU R L) (T 0 1) ?_ ?_ (T 0 1) 0 500 (by omega) (by omega)
  · intro n k hk
    have h2 := hl k hk
    simp only [fBurden_firstUnheld_L2]
    simp (disch := omega) only [zk_let, Option.bind_some, cond_true, cond_false, if_true, if_false, zbF, zbT, within_in, jn9, k0, k1, k2, k3, k4, k5, k6, k7, k8, k9, k10, k12, k16, k17, k20, k29, k30, k31, k32, k36, k40, k41, k42, k48, k57, k59, k60, k64, k98, k99, k100, k112, k128, k200, k255, k256, k378, k420, k999, k1000000, jN_add, jN_mul, jN_clamp, jN_inbT, Bool.false_eq_true, Bool.true_eq_false, hx.2.1, jN_le, h.1 k hk, both_spec hT hS sx hk]
    rw [if_neg (by omega)]
    by_cases c : 0 < L k
    · rw [if_neg (by omega)]
      have e : cU R L k = (oB R (2 * k) || oB R (2 * k + 1)) := by simp [cU, c]
      rw [e]
      cases oB R (2 * k) <;> cases oB R (2 * k + 1) <;> rfl
    · rw [if_pos (by omega), if_neg (show ¬ cU R L k = true by simp [cU]; omega)]
  · intro n
    simp only [fBurden_firstUnheld_L2]
    simp (disch := omega) only [zk_let, Option.bind_some, cond_true, cond_false, if_true, if_false, zbF, zbT, within_in, jn9, k0, k1, k2, k3, k4, k5, k6, k7, k8, k9, k10, k12, k16, k17, k20, k29, k30, k31, k32, k36, k40, k41, k42, k48, k57, k59, k60, k64, k98, k99, k100, k112, k128, k200, k255, k256, k378, k420, k999, k1000000, jN_add, jN_mul, jN_clamp, jN_inbT, Bool.false_eq_true, Bool.true_eq_false, hx.2.1, jN_le]
    rw [if_pos (by omega)]
theorem allHold_spec {T R : Nat → Nat → Nat} {L : Nat → Nat} {y : zkM} (hT : zTb T) (hx : zTx T y.1) (h : zLd T L (y.1 7) (y.1 8)) (hl : ∀ p, p < T 0 1 → L p < 1000) (hS : zEb T R) (sx : zSx T R (y.1 5)) : fBurden_allHold y = some (hA T R L) := by
  unfold fBurden_allHold hA
  simp only [laden_spec hT hx h hl, bent_spec hT hx h hl, unheld_spec hT hx h hl hS sx, Option.bind_some, jNo_def]
  by_cases c1 : fa (cH T L) 0 (T 0 1) = jNo <;> by_cases c2 : fa (cW T L) 0 (T 0 0) = jNo <;> by_cases c3 : fa (cU R L) 0 (T 0 1) = jNo <;> simp [c1, c2, c3]
theorem bothL_spec {T R : Nat → Nat → Nat} {y : zkM} {p : Nat} (hT : zTb T) (hS : zEb T R) (sx : zSx T R (y.1 40)) (hp : p < T 0 1) : fScene_hasBothEndsL y (jN p) = some (!(oB R (2 * p) || oB R (2 * p + 1))) := by
  have t2 := hT.2.1
  have e1 : fScene_isOutL y (jN (2 * p)) = some (oB R (2 * p)) := isOutL_spec (by omega) (sx.2.2 (2 * p) (by omega)).2.2 (hS (2 * p) (by omega)).2.2.1
  have e2 : fScene_isOutL y (jN (2 * p + 1)) = some (oB R (2 * p + 1)) := isOutL_spec (by omega) (sx.2.2 (2 * p + 1) (by omega)).2.2 (hS (2 * p + 1) (by omega)).2.2.1
  unfold fScene_hasBothEndsL
  simp only [zk_let, Option.bind_some, cond_true, cond_false, if_true, if_false, zbF, zbT, within_in, jn9, k0, k1, k2, k3, k4, k5, k6, k7, k8, k9, k10, k12, k16, k17, k20, k29, k30, k31, k32, k36, k40, k41, k42, k48, k57, k59, k60, k64, k98, k99, k100, k112, k128, k200, k255, k256, k378, k420, k999, k1000000, jN_add, jN_mul, jN_clamp, jN_inbT, Bool.false_eq_true, Bool.true_eq_false, e1, e2]
  cases oB R (2 * p) <;> cases oB R (2 * p + 1) <;> rfl
theorem unheldL_spec {T R : Nat → Nat → Nat} {L : Nat → Nat} {y : zkM} (hT : zTb T) (hx : zTx T y.1) (h : zLd T L (y.1 7) (y.1 8)) (hl : ∀ p, p < T 0 1 → L p < 1000) (hS : zEb T R) (sx : zSx T R (y.1 40)) : fBurden_firstUnheldL y = some (fa (cU R L) 0 (T 0 1)) := by
  obtain ⟨t1, t2, t3, t4, t5, t6⟩ := id hT
  unfold fBurden_firstUnheldL
  rw [jNo_def, k0]
  refine fa_up (fun n k => fBurden_firstUnheldL_L2 n y (jN k)) (cU R L) (T 0 1) ?_ ?_ (T 0 1) 0 500 (by omega) (by omega)
  · intro n k hk
    have h2 := hl k hk
    simp only [fBurden_firstUnheldL_L2]
    simp (disch := omega) only [zk_let, Option.bind_some, cond_true, cond_false, if_true, if_false, zbF, zbT, within_in, jn9, k0, k1, k2, k3, k4, k5, k6, k7, k8, k9, k10, k12, k16, k17, k20, k29, k30, k31, k32, k36, k40, k41, k42, k48, k57, k59, k60, k64, k98, k99, k100, k112, k128, k200, k255, k256, k378, k420, k999, k1000000, jN_add, jN_mul, jN_clamp, jN_inbT, Bool.false_eq_true, Bool.true_eq_false, hx.2.1, jN_le, h.1 k hk, bothL_spec hT hS sx hk]
    rw [if_neg (by omega)]
    by_cases c : 0 < L k
    · rw [if_neg (by omega)]
      have e : cU R L k = (oB R (2 * k) || oB R (2 * k + 1)) := by simp [cU, c]
      rw [e]
      cases oB R (2 * k) <;> cases oB R (2 * k + 1) <;> rfl
    · rw [if_pos (by omega), if_neg (show ¬ cU R L k = true by simp [cU]; omega)]
  · intro n
    simp only [fBurden_firstUnheldL_L2]
    simp (disch := omega) only [zk_let, Option.bind_some, cond_true, cond_false, if_true, if_false, zbF, zbT, within_in, jn9, k0, k1, k2, k3, k4, k5, k6, k7, k8, k9, k10, k12, k16, k17, k20, k29, k30, k31, k32, k36, k40, k41, k42, k48, k57, k59, k60, k64, k98, k99, k100, k112, k128, k200, k255, k256, k378, k420, k999, k1000000, jN_add, jN_mul, jN_clamp, jN_inbT, Bool.false_eq_true, Bool.true_eq_false, hx.2.1, jN_le]
    rw [if_pos (by omega)]
theorem allHoldL_spec {T R : Nat → Nat → Nat} {L : Nat → Nat} {y : zkM} (hT : zTb T) (hx : zTx T y.1) (h : zLd T L (y.1 7) (y.1 8)) (hl : ∀ p, p < T 0 1 → L p < 1000) (hS : zEb T R) (sx : zSx T R (y.1 40)) : fBurden_allHoldL y = some (hA T R L) := by
  unfold fBurden_allHoldL hA
  simp only [laden_spec hT hx h hl, bent_spec hT hx h hl, unheldL_spec hT hx h hl hS sx, Option.bind_some, jNo_def]
  by_cases c1 : fa (cH T L) 0 (T 0 1) = jNo <;> by_cases c2 : fa (cW T L) 0 (T 0 0) = jNo <;> by_cases c3 : fa (cU R L) 0 (T 0 1) = jNo <;> simp [c1, c2, c3]
theorem heavyM {T : Nat → Nat → Nat} {L : Nat → Nat} {z : zkM} (hT : zTb T) (hm : zTm T z.1) (h : zLd T L (z.1 14) (z.1 15)) (hl : ∀ p, p < T 0 1 → L p < 1000) : fMd_firstHeavy z = some (fa (cH T L) 0 (T 0 1)) := by
  obtain ⟨t1, t2, t3, t4, t5, t6⟩ := id hT
  unfold fMd_firstHeavy
  simp only [zk_let, hm.2.1, jNo_def, k1, dn_f]
  have := fa_dn (fun n v k => fMd_firstHeavy_L10 n z v (dn k)) (cH T L) (T 0 1) ?_ ?_ (T 0 1) 500 (by omega) (by omega)
  · rw [Nat.sub_self] at this
    simp only [fa] at this
    rw [this]; rfl
  · intro n v k hk
    have h1 := t5 k hk
    have h2 := hl k hk
    simp only [fMd_firstHeavy_L10, dn_s]
    simp (disch := omega) only [zk_let, Option.bind_some, cond_true, cond_false, if_true, if_false, zbF, zbT, within_in, jn9, k0, k1, k2, k3, k4, k5, k6, k7, k8, k9, k10, k12, k16, k17, k20, k29, k30, k31, k32, k36, k40, k41, k42, k48, k57, k59, k60, k64, k98, k99, k100, k112, k128, k200, k255, k256, k378, k420, k999, k1000000, jN_add, jN_mul, jN_clamp, jN_inbT, Bool.false_eq_true, Bool.true_eq_false, jN_lt, jN_le, h.1 k hk, (hm.2.2.2.2.1 k hk).2.2, dn_m]
    rw [if_neg (by omega)]
    by_cases c : T 6 k < L k
    · rw [if_neg (by omega), if_pos (show cH T L k = true from decide_eq_true c)]
    · rw [if_pos (by omega), if_neg (show ¬ cH T L k = true by simp [cH, c])]
  · intro n v
    simp only [fMd_firstHeavy_L10]
    rw [if_pos dn_0]
theorem weakM {T : Nat → Nat → Nat} {L : Nat → Nat} {z : zkM} (hT : zTb T) (hm : zTm T z.1) (h : zLd T L (z.1 14) (z.1 15)) (hl : ∀ p, p < T 0 1 → L p < 1000) : fMd_firstWeak z = some (fa (cW T L) 0 (T 0 0)) := by
  obtain ⟨t1, t2, t3, t4, t5, t6⟩ := id hT
  unfold fMd_firstWeak
  simp only [zk_let, hm.1, jNo_def, k1, dn_f]
  have := fa_dn (fun n v k => fMd_firstWeak_L10 n z v (dn k)) (cW T L) (T 0 0) ?_ ?_ (T 0 0) 500 (by omega) (by omega)
  · rw [Nat.sub_self] at this
    simp only [fa] at this
    rw [this]; rfl
  · intro n v k hk
    have h1 := t4 k hk
    have h2 := be_lt hT hl k
    simp only [fMd_firstWeak_L10, dn_s]
    simp (disch := omega) only [zk_let, Option.bind_some, cond_true, cond_false, if_true, if_false, zbF, zbT, within_in, jn9, k0, k1, k2, k3, k4, k5, k6, k7, k8, k9, k10, k12, k16, k17, k20, k29, k30, k31, k32, k36, k40, k41, k42, k48, k57, k59, k60, k64, k98, k99, k100, k112, k128, k200, k255, k256, k378, k420, k999, k1000000, jN_add, jN_mul, jN_clamp, jN_inbT, Bool.false_eq_true, Bool.true_eq_false, jN_lt, jN_le, h.2 k hk, (hm.2.2.2.1 k hk).2.1, dn_m]
    rw [if_neg (by omega)]
    by_cases c : T 2 k < be T L (T 0 1) k
    · rw [if_neg (by omega), if_pos (show cW T L k = true from decide_eq_true c)]
    · rw [if_pos (by omega), if_neg (show ¬ cW T L k = true by simp [cW]; omega)]
  · intro n v
    simp only [fMd_firstWeak_L10]
    rw [if_pos dn_0]
theorem lostM {T R : Nat → Nat → Nat} {L : Nat → Nat} {z : zkM} (hT : zTb T) (hm : zTm T z.1) (h : zLd T L (z.1 14) (z.1 15)) (hl : ∀ p, p < T 0 1 → L p < 1000) (hS : zEb T R) (sm : zEm T R 0 (z.1 16)) : fMd_firstLost z = some (fa (cU R L) 0 (T 0 1)) := by
  obtain ⟨t1, t2, t3, t4, t5, t6⟩ := id hT
  unfold fMd_firstLost
  simp only [zk_let, hm.2.1, jNo_def, k1, dn_f]
  have := fa_dn (fun n v k => fMd_firstLost_L10 n z v (dn k)) (cU R L) (T 0 1) ?_ ?_ (T 0 1) 500 (by omega) (by omega)
  · rw [Nat.sub_self] at this
    simp only [fa] at this
    rw [this]; rfl
  · intro n v k hk
    have h2 := hl k hk
    have e1 := (sm (2 * k) (by omega)).2.2
    have e2 := (sm (2 * k + 1) (by omega)).2.2
    rw [show 0 + 3 * (2 * k) + 2 = 6 * k + 2 by omega] at e1
    rw [show 0 + 3 * (2 * k + 1) + 2 = 6 * k + 5 by omega] at e2
    have b1 := (hS (2 * k) (by omega)).2.2.1
    have b2 := (hS (2 * k + 1) (by omega)).2.2.1
    simp only [fMd_firstLost_L10, dn_s]
    simp (disch := omega) only [zk_let, Option.bind_some, cond_true, cond_false, if_true, if_false, zbF, zbT, within_in, jn9, k0, k1, k2, k3, k4, k5, k6, k7, k8, k9, k10, k12, k16, k17, k20, k29, k30, k31, k32, k36, k40, k41, k42, k48, k57, k59, k60, k64, k98, k99, k100, k112, k128, k200, k255, k256, k378, k420, k999, k1000000, jN_add, jN_mul, jN_clamp, jN_inbT, Bool.false_eq_true, Bool.true_eq_false, jN_lt, jN_le, h.1 k hk, e1, e2, dn_m]
    rw [if_neg (by omega)]
    by_cases c : 0 < L k
    · rw [if_neg (by omega)]
      by_cases c1 : R 2 (2 * k) = 1 <;> by_cases c2 : R 2 (2 * k + 1) = 1
      · rw [if_neg (by omega), if_pos (show cU R L k = true by simp [cU, oB, c, c1])]; rfl
      · rw [if_neg (by omega), if_pos (show cU R L k = true by simp [cU, oB, c, c1])]; rfl
      · rw [if_neg (by omega), if_pos (show cU R L k = true by simp [cU, oB, c, c2])]; rfl
      · rw [if_pos (by omega), if_neg (show ¬ cU R L k = true by simp [cU, oB, c1, c2])]; rfl
    · rw [if_pos (by omega), if_neg (show ¬ cU R L k = true by simp [cU]; omega)]; rfl
  · intro n v
    simp only [fMd_firstLost_L10]
    rw [if_pos dn_0]
theorem holdsAllM {T R : Nat → Nat → Nat} {L : Nat → Nat} {z : zkM} (hT : zTb T) (hm : zTm T z.1) (h : zLd T L (z.1 14) (z.1 15)) (hl : ∀ p, p < T 0 1 → L p < 1000) (hS : zEb T R) (sm : zEm T R 0 (z.1 16)) : fMd_holdsAll z = some (hA T R L) := by
  unfold fMd_holdsAll hA
  simp only [heavyM hT hm h hl, weakM hT hm h hl, lostM hT hm h hl hS sm, Option.bind_some, jNo_def]
  by_cases c1 : fa (cH T L) 0 (T 0 1) = jNo <;> by_cases c2 : fa (cW T L) 0 (T 0 0) = jNo <;> by_cases c3 : fa (cU R L) 0 (T 0 1) = jNo <;> simp [c1, c2, c3]
