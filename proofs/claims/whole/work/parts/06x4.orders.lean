/-! orders -/
def sm (f : Nat → Nat) : Nat → Nat
  | 0 => 0
  | k + 1 => sm f k + f k
theorem sm_congr {f g : Nat → Nat} {K : Nat} (h : ∀ k, k < K → f k = g k) : sm f K = sm g K := by
  induction K with
  | zero => rfl
  | succ K ih => simp only [sm]; rw [ih (fun k hk => h k (by omega)), h K (by omega)]
theorem sm_le {f : Nat → Nat} {K M : Nat} (h : ∀ k, k < K → f k ≤ M) : sm f K ≤ K * M := by
  induction K with
  | zero => simp [sm]
  | succ K ih =>
    have h1 := ih (fun k hk => h k (by omega))
    have h2 := h K (by omega)
    simp only [sm]; rw [Nat.add_mul, Nat.one_mul]; omega
theorem sm_ge {f : Nat → Nat} {K p : Nat} (h : p < K) : f p ≤ sm f K := by
  induction K with
  | zero => omega
  | succ K ih =>
    simp only [sm]
    by_cases c : p = K
    · subst c; omega
    · have := ih (by omega); omega
theorem sm_0 {f : Nat → Nat} {K : Nat} (h : ∀ k, k < K → f k = 0) : sm f K = 0 := by
  have := sm_le (f := f) (K := K) (M := 0) (fun k hk => by rw [h k hk]; exact Nat.le_refl _)
  omega
def fl (T : Nat → Nat → Nat) : Nat := 2 ^ T 0 1 - 1
theorem fl_s (T : Nat → Nat → Nat) : fl T + 1 = 2 ^ T 0 1 := by
  have := Nat.two_pow_pos (T 0 1); unfold fl; omega
theorem fl_64 {T : Nat → Nat → Nat} (hT : zTb T) : fl T < 64 := by
  have h2 : 2 ^ T 0 1 ≤ 2 ^ 6 := Nat.pow_le_pow_right (by omega) hT.2.1
  have := fl_s T; omega
def nst (T : Nat → Nat → Nat) : Nat → Nat → Nat
  | 0, _ => 1
  | k + 1, s => if s = fl T - (k + 1) then sm (fun p => if ml T s p = true then nst T k (s ||| 2 ^ p) else 0) (T 0 1) else nst T k s
/-- in how many orders the rest can be laid, where s is laid -/
def oN (T : Nat → Nat → Nat) (s : Nat) : Nat := nst T (fl T) s
theorem nst_stab {T : Nat → Nat → Nat} {k t : Nat} (ht : fl T - k ≤ t) : ∀ d, k + d ≤ fl T → nst T (k + d) t = nst T k t := by
  intro d
  induction d with
  | zero => intro _; rfl
  | succ d ih =>
    intro h
    have e : nst T (k + d + 1) t = nst T (k + d) t := if_neg (by omega)
    rw [show k + (d + 1) = k + d + 1 by omega]
    rw [e]; exact ih (by omega)
theorem oN_full {T : Nat → Nat → Nat} : oN T (fl T) = 1 := by
  have := nst_stab (T := T) (k := 0) (t := fl T) (by omega) (fl T) (by omega)
  rw [Nat.zero_add] at this
  unfold oN; rw [this]; rfl
theorem or_gt {s p : Nat} (h : s.testBit p = false) : s < s ||| 2 ^ p := by
  have h1 : s ≤ s ||| 2 ^ p := Nat.left_le_or
  have h2 : s ≠ s ||| 2 ^ p := by
    intro e
    have := congrArg (fun v => v.testBit p) e
    simp [Nat.testBit_or, h] at this
  omega
theorem or_le {T : Nat → Nat → Nat} {s p : Nat} (hs : s ≤ fl T) (hp : p < T 0 1) : s ||| 2 ^ p ≤ fl T := by
  have h1 := fl_s T
  have h2 : s ||| 2 ^ p < 2 ^ T 0 1 := Nat.or_lt_two_pow (by omega) (Nat.pow_lt_pow_right (by omega) hp)
  omega
theorem oN_E {T : Nat → Nat → Nat} {s : Nat} (hs : s < fl T) : oN T s = sm (fun p => if ml T s p = true then oN T (s ||| 2 ^ p) else 0) (T 0 1) := by
  have h1 := nst_stab (T := T) (k := fl T - s) (t := s) (by omega) s (by omega)
  rw [show fl T - s + s = fl T by omega] at h1
  have h2 : nst T (fl T - s - 1 + 1) s = sm (fun p => if ml T s p = true then nst T (fl T - s - 1) (s ||| 2 ^ p) else 0) (T 0 1) := if_pos (by omega)
  rw [show fl T - s - 1 + 1 = fl T - s by omega] at h2
  unfold oN
  rw [h1, h2]
  apply sm_congr
  intro p hp
  by_cases c : ml T s p = true
  · rw [if_pos c, if_pos c]
    have h3 := or_gt (ml_new c)
    have h4 := nst_stab (T := T) (k := fl T - s - 1) (t := s ||| 2 ^ p) (by omega) (s + 1) (by omega)
    rw [show fl T - s - 1 + (s + 1) = fl T by omega] at h4
    exact h4.symm
  · rw [if_neg c, if_neg c]
theorem oN_le {T : Nat → Nat → Nat} (hT : zTb T) : ∀ d s, s + d = fl T → oN T s ≤ 6 ^ (6 - pc s) := by
  have t2 := hT.2.1
  have f64 := fl_64 hT
  intro d
  induction d using Nat.strongRecOn with
  | ind d ih =>
    intro s hs
    by_cases c : s = fl T
    · rw [c, oN_full]; exact Nat.pow_pos (by omega)
    · rw [oN_E (by omega)]
      by_cases c6 : pc s ≤ 5
      · have h1 : sm (fun p => if ml T s p = true then oN T (s ||| 2 ^ p) else 0) (T 0 1) ≤ T 0 1 * 6 ^ (5 - pc s) := by
          apply sm_le
          intro p hp
          by_cases cm : ml T s p = true
          · rw [if_pos cm]
            have h3 := or_gt (ml_new cm)
            have h4 := or_le (T := T) (s := s) (by omega) hp
            have := ih (fl T - (s ||| 2 ^ p)) (by omega) (s ||| 2 ^ p) (by omega)
            rw [pc_or s (by omega) p (by omega) (ml_new cm)] at this
            rw [show 5 - pc s = 6 - (pc s + 1) by omega]; exact this
          · rw [if_neg cm]; exact Nat.zero_le _
        rw [show 6 - pc s = (5 - pc s) + 1 by omega, Nat.pow_succ]
        have h2 : T 0 1 * 6 ^ (5 - pc s) ≤ 6 * 6 ^ (5 - pc s) := Nat.mul_le_mul_right _ t2
        rw [Nat.mul_comm (6 ^ (5 - pc s)) 6]
        omega
      · rw [sm_0]
        · exact Nat.zero_le _
        · intro p hp
          by_cases cm : ml T s p = true
          · have h3 := or_le (T := T) (s := s) (by omega) hp
            have := pc_or s (by omega) p (by omega) (ml_new cm)
            have := pc_lt (s ||| 2 ^ p) (by omega)
            omega
          · rw [if_neg cm]
theorem oN_lt {T : Nat → Nat → Nat} (hT : zTb T) {s : Nat} (hs : s ≤ fl T) : oN T s < 100000 := by
  have h1 := oN_le hT (fl T - s) s (by omega)
  have h2 : 6 ^ (6 - pc s) ≤ 6 ^ 6 := Nat.pow_le_pow_right (by omega) (by omega)
  omega
def okT (T : Nat → Nat → Nat) : Prop := ∀ t, t ≤ fl T → t ≠ fl T → ∃ p, p < T 0 1 ∧ ml T t p = true
theorem oN_pos {T : Nat → Nat → Nat} (h : okT T) : ∀ d s, s + d = fl T → 0 < oN T s := by
  intro d
  induction d using Nat.strongRecOn with
  | ind d ih =>
    intro s hs
    by_cases c : s = fl T
    · rw [c, oN_full]; omega
    · obtain ⟨p, hp, hm⟩ := h s (by omega) c
      rw [oN_E (by omega)]
      have h1 := sm_ge (f := fun p => if ml T s p = true then oN T (s ||| 2 ^ p) else 0) hp
      rw [if_pos hm] at h1
      have h3 := or_gt (ml_new hm)
      have h4 := or_le (T := T) (s := s) (by omega) hp
      have := ih (fl T - (s ||| 2 ^ p)) (by omega) (s ||| 2 ^ p) (by omega)
      omega
theorem sub_full {T : Nat → Nat → Nat} {t : Nat} (h : sub (fl T) t) (ht : t ≤ fl T) : t = fl T := by
  apply Nat.eq_of_testBit_eq
  intro i
  cases e : (fl T).testBit i with
  | true => exact h i e
  | false =>
    cases e2 : t.testBit i with
    | false => rfl
    | true =>
      have := bit_lt (P := T 0 1) (by have := fl_s T; omega) e2
      unfold fl at e
      rw [full_bit this] at e; cases e
theorem okT_of {T : Nat → Nat → Nat} (h : gr T (T 0 1) = fl T) : okT T := by
  intro t ht hne
  refine Classical.byContradiction (fun hn => hne ?_)
  have hc : clo T t := by
    intro p hp
    cases e : ml T t p with
    | false => rfl
    | true => exact absurd ⟨p, hp, e⟩ hn
  refine sub_full (fun i hi => ?_) ht
  rw [← h] at hi
  exact bR_clo hc _ i (gr_bR _ i hi)
theorem oN_zero {T : Nat → Nat → Nat} (hT : zTb T) (h : gr T (T 0 1) ≠ fl T) : ∀ d s, s + d = fl T → sub s (gr T (T 0 1)) → oN T s = 0 := by
  intro d
  induction d using Nat.strongRecOn with
  | ind d ih =>
    intro s hs hsub
    by_cases c : s = fl T
    · rw [c] at hsub
      exact absurd (sub_full hsub (by have := gr_lt T (T 0 1); have := fl_s T; omega)) h
    · rw [oN_E (by omega)]
      apply sm_0
      intro p hp
      by_cases cm : ml T s p = true
      · rw [if_pos cm]
        have h3 := or_gt (ml_new cm)
        have h4 := or_le (T := T) (s := s) (by omega) hp
        apply ih (fl T - (s ||| 2 ^ p)) (by omega) (s ||| 2 ^ p) (by omega)
        intro i hi
        rw [Nat.testBit_or, Bool.or_eq_true] at hi
        rcases hi with hi | hi
        · exact hsub i hi
        · rw [Nat.testBit_two_pow] at hi
          have e : p = i := by simpa using hi
          rw [← e]
          rcases ml_mono hsub cm with h5 | h5
          · exact h5
          · rw [gr_clo hT p hp] at h5; cases h5
      · rw [if_neg cm]
theorem sub_0 {s : Nat} : sub 0 s := by intro i hi; simp at hi
/-! the model finds them -/
theorem find29 {T : Nat → Nat → Nat} {z : zkM} {r : Nat → Int32} {s : Nat} (hT : zTb T) (hm : zTm T z.1) (hs : s < fl T) (hr : ∀ t, s < t → t ≤ fl T → r t = jN (oN T t)) : fMd_findOrders_L29 500 (zk_row z 19 r) (jN s) (jN 0) (jN 0) = some (jN (oN T s)) := by
  have t2 := hT.2.1
  have f64 := fl_64 hT
  have hm' : zTm T (zk_row z 19 r).1 := hm.congr rfl rfl rfl rfl rfl rfl
  rw [oN_E hs]
  have := zl_eq (fun n (q : Int32 × Int32) => fMd_findOrders_L29 n (zk_row z 19 r) (jN s) q.1 q.2) (fun k => (jN (sm (fun p => if ml T s p = true then oN T (s ||| 2 ^ p) else 0) k), jN k)) (T 0 1) (jN (sm (fun p => if ml T s p = true then oN T (s ||| 2 ^ p) else 0) (T 0 1))) ?_ ?_ 500 (by omega)
  · exact this
  · intro n k hk
    simp only [fMd_findOrders_L29, mayLayM hT hm' (show s < 64 by omega) hk]
    have h4 := or_le (T := T) (s := s) (by omega) hk
    simp (disch := omega) only [zk_let, Option.bind_some, cond_true, cond_false, if_true, if_false, zbF, zbT, within_in, jn9, k0, k1, k2, k3, k4, k5, k6, k7, k8, k9, k10, k12, k16, k17, k20, k29, k30, k31, k32, k36, k40, k41, k42, k48, k57, k59, k60, k64, k98, k99, k100, k112, k128, k200, k255, k256, k378, k420, k999, k1000000, jN_add, jN_mul, jN_clamp, jN_inbT, Bool.false_eq_true, Bool.true_eq_false, hm'.2.1, jN_le, sh1, jN_or, zk_row_on]
    rw [if_neg (by omega)]
    have e1 : sm (fun p => if ml T s p = true then oN T (s ||| 2 ^ p) else 0) (k + 1) = sm (fun p => if ml T s p = true then oN T (s ||| 2 ^ p) else 0) k + (if ml T s k = true then oN T (s ||| 2 ^ k) else 0) := rfl
    rw [e1]
    by_cases cm : ml T s k = true
    · rw [cm, if_neg (by decide), if_pos rfl, hr _ (or_gt (ml_new cm)) h4]
      simp only [Option.bind_some, jN_add]
    · have cf : ml T s k = false := by simpa using cm
      rw [cf, if_pos rfl, if_neg (by decide)]
      simp only [Option.bind_some, jN_add]
  · intro n
    simp only [fMd_findOrders_L29]
    simp (disch := omega) only [zk_let, Option.bind_some, cond_true, cond_false, if_true, if_false, zbF, zbT, within_in, jn9, k0, k1, k2, k3, k4, k5, k6, k7, k8, k9, k10, k12, k16, k17, k20, k29, k30, k31, k32, k36, k40, k41, k42, k48, k57, k59, k60, k64, k98, k99, k100, k112, k128, k200, k255, k256, k378, k420, k999, k1000000, jN_add, jN_mul, jN_clamp, jN_inbT, Bool.false_eq_true, Bool.true_eq_false, hm'.2.1, jN_le]
    rw [if_pos (by omega)]
theorem findM {T : Nat → Nat → Nat} {z : zkM} (hT : zTb T) (hm : zTm T z.1) : ∃ r, fMd_findOrders z = some (zk_row z 19 r) ∧ ∀ t, t ≤ fl T → r t = jN (oN T t) := by
  have t2 := hT.2.1
  have f64 := fl_64 hT
  have fs := fl_s T
  obtain ⟨q, h1, r, h2, h3⟩ := zl_loop (fun n (q : zkM × Int32) => fMd_findOrders_L20 n q.1 q.2) (fun j q => q.2 = dn (fl T - j) ∧ ∃ r, q.1 = zk_row z 19 r ∧ ∀ t, fl T - j ≤ t → t ≤ fl T → r t = jN (oN T t)) (fl T) (fun q => ∃ r, q = zk_row z 19 r ∧ ∀ t, t ≤ fl T → r t = jN (oN T t)) (by
    rintro n j ⟨m, x⟩ hj ⟨e1, r, e2, hr⟩
    dsimp only at e1 e2
    subst e1; subst e2
    simp only [fMd_findOrders_L20]
    by_cases c : j = fl T
    · left
      refine ⟨_, ?_, r, rfl, fun t ht => hr t (by omega) ht⟩
      rw [show fl T - j = 0 by omega, if_pos dn_0]
    · right
      refine ⟨by omega, (zk_row z 19 (upd r (fl T - j - 1) (jN (oN T (fl T - j - 1)))), dn (fl T - (j + 1))), ?_, rfl, _, rfl, fun t h1 h2 => ?_⟩
      · rw [show fl T - j = (fl T - j - 1) + 1 by omega, dn_s, Nat.add_sub_cancel]
        simp only [k0, find29 hT hm (show fl T - j - 1 < fl T by omega) (fun t h1 h2 => hr t (by omega) h2)]
        simp (disch := omega) only [zk_let, Option.bind_some, cond_true, cond_false, if_true, if_false, zbF, zbT, within_in, jn9, k0, k1, k2, k3, k4, k5, k6, k7, k8, k9, k10, k12, k16, k17, k20, k29, k30, k31, k32, k36, k40, k41, k42, k48, k57, k59, k60, k64, k98, k99, k100, k112, k128, k200, k255, k256, k378, k420, k999, k1000000, jN_add, jN_mul, jN_clamp, jN_inbT, Bool.false_eq_true, Bool.true_eq_false, jN_lt, dn_m, zk_u_row, zk_row_row, zk_row_on]
        rw [if_neg (by omega), show fl T - (j + 1) = fl T - j - 1 by omega]
      · by_cases c2 : t = fl T - j - 1
        · rw [c2, upd_same]
        · rw [upd_ne c2]; exact hr t (by omega) h2) 500 (zk_row z 19 (upd (z.1 19) (fl T) (jN 1)), dn (fl T)) ⟨rfl, _, rfl, fun t h1 h2 => by rw [show t = fl T by omega, upd_same, oN_full]⟩ (by omega)
  subst h2
  refine ⟨r, ?_, h3⟩
  unfold fMd_findOrders
  simp (disch := omega) only [zk_let, Option.bind_some, cond_true, cond_false, if_true, if_false, zbF, zbT, within_in, jn9, k0, k1, k2, k3, k4, k5, k6, k7, k8, k9, k10, k12, k16, k17, k20, k29, k30, k31, k32, k36, k40, k41, k42, k48, k57, k59, k60, k64, k98, k99, k100, k112, k128, k200, k255, k256, k378, k420, k999, k1000000, jN_add, jN_mul, jN_clamp, jN_inbT, Bool.false_eq_true, Bool.true_eq_false, hm.2.1, sh1]
  rw [← fs, jN_sub (by omega), Nat.add_sub_cancel]
  simp (disch := omega) only [zk_let, Option.bind_some, cond_true, cond_false, if_true, if_false, zbF, zbT, within_in, jn9, k0, k1, k2, k3, k4, k5, k6, k7, k8, k9, k10, k12, k16, k17, k20, k29, k30, k31, k32, k36, k40, k41, k42, k48, k57, k59, k60, k64, k98, k99, k100, k112, k128, k200, k255, k256, k378, k420, k999, k1000000, jN_add, jN_mul, jN_clamp, jN_inbT, Bool.false_eq_true, Bool.true_eq_false, dn_f, zk_u_row]
  dsimp only at h1
  rw [h1]; rfl
/-! the class counts them -/
def wU (T : Nat → Nat → Nat) (m : Nat) (r : Nat → Int32) : Nat → Nat → Int32
  | 0 => r
  | k + 1 => if ml T m k = true then upd (wU T m r k) (m ||| 2 ^ k) (wU T m r k (m ||| 2 ^ k) + wU T m r k m) else wU T m r k
theorem wU_m {T : Nat → Nat → Nat} {m : Nat} {r : Nat → Int32} (k : Nat) : wU T m r k m = r m := by
  induction k with
  | zero => rfl
  | succ k ih =>
    simp only [wU]
    by_cases c : ml T m k = true
    · rw [if_pos c, upd_ne (by have := or_gt (ml_new c); omega)]; exact ih
    · rw [if_neg c]; exact ih
def wF (T : Nat → Nat → Nat) (r : Nat → Int32) : Nat → Nat → Int32
  | 0 => r
  | m + 1 => wU T m (wF T r m) (T 0 1)
def sI (f : Nat → Int32) (a : Nat) : Nat → Int32
  | 0 => 0
  | n + 1 => sI f a n + f (a + n)
theorem sI_congr {f g : Nat → Int32} {a n : Nat} (h : ∀ i, a ≤ i → i < a + n → f i = g i) : sI f a n = sI g a n := by
  induction n with
  | zero => rfl
  | succ n ih => simp only [sI]; rw [ih (fun i h1 h2 => h i h1 (by omega)), h (a + n) (by omega) (by omega)]
theorem sI_head {f : Nat → Int32} {a n : Nat} : sI f a (n + 1) = f a + sI f (a + 1) n := by
  induction n with
  | zero => simp only [sI, Nat.add_zero]; rw [Int32.zero_add, Int32.add_zero]
  | succ n ih =>
    have e1 : sI f a (n + 1 + 1) = sI f a (n + 1) + f (a + (n + 1)) := rfl
    have e2 : sI f (a + 1) (n + 1) = sI f (a + 1) n + f (a + 1 + n) := rfl
    rw [e1, ih, e2, Int32.add_assoc, show a + 1 + n = a + (n + 1) by omega]
theorem sI_upd {V N : Nat → Int32} {a n j : Nat} {d : Int32} (h1 : a ≤ j) (h2 : j < a + n) : sI (fun s => upd V j (V j + d) s * N s) a n = sI (fun s => V s * N s) a n + d * N j := by
  induction n with
  | zero => omega
  | succ n ih =>
    simp only [sI]
    by_cases c : j = a + n
    · subst c
      rw [sI_congr (g := fun s => V s * N s) (fun i h3 h4 => by rw [upd_ne (by omega)]), upd_same, Int32.add_mul, Int32.add_assoc]
    · rw [ih (by omega), upd_ne (fun e => c e.symm), Int32.add_assoc, Int32.add_assoc, Int32.add_comm (d * N j)]
theorem sI_wU {T : Nat → Nat → Nat} {m : Nat} {r : Nat → Int32} (hm : m < fl T) {k : Nat} (hk : k ≤ T 0 1) : sI (fun s => wU T m r k s * jN (oN T s)) (m + 1) (fl T - m) = sI (fun s => r s * jN (oN T s)) (m + 1) (fl T - m) + r m * jN (sm (fun p => if ml T m p = true then oN T (m ||| 2 ^ p) else 0) k) := by
  induction k with
  | zero =>
    simp only [wU, sm]
    rw [← k0, Int32.mul_zero, Int32.add_zero]
  | succ k ih =>
    have e1 : sm (fun p => if ml T m p = true then oN T (m ||| 2 ^ p) else 0) (k + 1) = sm (fun p => if ml T m p = true then oN T (m ||| 2 ^ p) else 0) k + (if ml T m k = true then oN T (m ||| 2 ^ k) else 0) := rfl
    have ih' := ih (by omega)
    rw [e1]
    by_cases c : ml T m k = true
    · have e2 : wU T m r (k + 1) = upd (wU T m r k) (m ||| 2 ^ k) (wU T m r k (m ||| 2 ^ k) + wU T m r k m) := if_pos c
      have h3 := or_gt (ml_new c)
      have h4 := or_le (T := T) (s := m) (by omega) (show k < T 0 1 by omega)
      rw [e2, sI_upd (N := fun s => jN (oN T s)) (by omega) (by omega), ih', wU_m, if_pos c, ← jN_add, Int32.mul_add, Int32.add_assoc]
    · have e2 : wU T m r (k + 1) = wU T m r k := if_neg c
      rw [e2, if_neg c, Nat.add_zero]; exact ih'
theorem sI_wF {T : Nat → Nat → Nat} {r : Nat → Int32} (hr : ∀ t, t ≤ fl T → r t = if t = 0 then jN 1 else jN 0) : ∀ m, m ≤ fl T → sI (fun s => wF T r m s * jN (oN T s)) m (fl T + 1 - m) = jN (oN T 0) := by
  intro m
  induction m with
  | zero =>
    intro _
    have key : ∀ n, n ≤ fl T → sI (fun s => r s * jN (oN T s)) 0 (n + 1) = jN (oN T 0) := by
      intro n
      induction n with
      | zero =>
        intro h
        simp only [sI, Nat.add_zero]
        rw [hr 0 (by omega), if_pos rfl, Int32.zero_add, ← k1, Int32.one_mul]
      | succ n ih =>
        intro h
        have e : sI (fun s => r s * jN (oN T s)) 0 (n + 1 + 1) = sI (fun s => r s * jN (oN T s)) 0 (n + 1) + r (0 + (n + 1)) * jN (oN T (0 + (n + 1))) := rfl
        rw [e, ih (by omega), hr _ (by omega), if_neg (by omega), ← k0, Int32.zero_mul, Int32.add_zero]
    exact key (fl T) (Nat.le_refl _)
  | succ m ih =>
    intro h
    have ih' := ih (by omega)
    rw [show fl T + 1 - m = (fl T - m) + 1 by omega, sI_head] at ih'
    rw [show fl T + 1 - (m + 1) = fl T - m by omega]
    have e : wF T r (m + 1) = wU T m (wF T r m) (T 0 1) := rfl
    rw [e, sI_wU (by omega) (Nat.le_refl _), ← oN_E (by omega), Int32.add_comm]
    exact ih'
theorem wF_end {T : Nat → Nat → Nat} {r : Nat → Int32} (hr : ∀ t, t ≤ fl T → r t = if t = 0 then jN 1 else jN 0) : wF T r (fl T + 1) (fl T) = jN (oN T 0) := by
  have e : wF T r (fl T + 1) = wU T (fl T) (wF T r (fl T)) (T 0 1) := rfl
  rw [e, wU_m]
  have h := sI_wF hr (fl T) (Nat.le_refl _)
  rw [show fl T + 1 - fl T = 0 + 1 by omega] at h
  simp only [sI, Nat.add_zero] at h
  rw [oN_full, ← k1, Int32.mul_one, Int32.zero_add] at h
  exact h
theorem many9 {T : Nat → Nat → Nat} {y : zkM} (hT : zTb T) : ∃ r, fLaying_howMany_L9 500 y (jN (fl T + 1)) (jN 0) = some (zk_row y 45 r) ∧ ∀ t, t ≤ fl T → r t = if t = 0 then jN 1 else jN 0 := by
  have f64 := fl_64 hT
  obtain ⟨q, h1, r, h2, h3⟩ := zl_loop (fun n (q : zkM × Int32) => fLaying_howMany_L9 n q.1 (jN (fl T + 1)) q.2) (fun k q => q.2 = jN k ∧ ∃ r, q.1 = zk_row y 45 r ∧ ∀ t, t < k → r t = if t = 0 then jN 1 else jN 0) (fl T + 1) (fun q => ∃ r, q = zk_row y 45 r ∧ ∀ t, t ≤ fl T → r t = if t = 0 then jN 1 else jN 0) (by
    rintro n k ⟨m, x⟩ hk ⟨e1, r, e2, hr⟩
    dsimp only at e1 e2
    subst e1; subst e2
    simp only [fLaying_howMany_L9]
    by_cases c : k = fl T + 1
    · left
      refine ⟨_, ?_, r, rfl, fun t ht => hr t (by omega)⟩
      simp (disch := omega) only [zk_let, Option.bind_some, cond_true, cond_false, if_true, if_false, zbF, zbT, within_in, jn9, k0, k1, k2, k3, k4, k5, k6, k7, k8, k9, k10, k12, k16, k17, k20, k29, k30, k31, k32, k36, k40, k41, k42, k48, k57, k59, k60, k64, k98, k99, k100, k112, k128, k200, k255, k256, k378, k420, k999, k1000000, jN_add, jN_mul, jN_clamp, jN_inbT, Bool.false_eq_true, Bool.true_eq_false, jN_le]
      rw [if_pos (by omega)]
    · right
      refine ⟨by omega, (zk_row y 45 (upd r k (if k = 0 then jN 1 else jN 0)), jN (k + 1)), ?_, rfl, _, rfl, fun t ht => ?_⟩
      · simp (disch := omega) only [zk_let, Option.bind_some, cond_true, cond_false, if_true, if_false, zbF, zbT, within_in, jn9, k0, k1, k2, k3, k4, k5, k6, k7, k8, k9, k10, k12, k16, k17, k20, k29, k30, k31, k32, k36, k40, k41, k42, k48, k57, k59, k60, k64, k98, k99, k100, k112, k128, k200, k255, k256, k378, k420, k999, k1000000, jN_add, jN_mul, jN_clamp, jN_inbT, Bool.false_eq_true, Bool.true_eq_false, jN_le, jN_eq, zk_u_row, zk_row_row, zk_row_on]
        rw [if_neg (by omega)]
        by_cases c0 : k = 0
        · rw [if_pos c0, if_pos c0, show zk_b true = jN 1 by decide]
        · rw [if_neg c0, if_neg c0, show zk_b false = jN 0 by decide]
      · by_cases c2 : t = k
        · rw [c2, upd_same]
        · rw [upd_ne c2]; exact hr t (by omega)) 500 (y, jN 0) ⟨rfl, y.1 45, zk_row_self.symm, fun t h => by omega⟩ (by omega)
  subst h2
  exact ⟨r, h1, h3⟩
theorem many52 {T : Nat → Nat → Nat} {y : zkM} {r : Nat → Int32} {m : Nat} (hT : zTb T) (hx : zTx T y.1) (hm : m ≤ fl T) : fLaying_howMany_L52 500 (zk_row y 45 r) (jN m) (jN (rc T m (T 0 1))) (jN 0) = some (zk_row y 45 (wU T m r (T 0 1))) := by
  have t2 := hT.2.1
  have f64 := fl_64 hT
  have := zl_eq (fun n (q : zkM × Int32) => fLaying_howMany_L52 n q.1 (jN m) (jN (rc T m (T 0 1))) q.2) (fun k => (zk_row y 45 (wU T m r k), jN k)) (T 0 1) (zk_row y 45 (wU T m r (T 0 1))) ?_ ?_ 500 (by omega)
  · exact this
  · intro n k hk
    have hx' : zTx T (zk_row y 45 (wU T m r k)).1 := hx.congr rfl rfl rfl rfl rfl rfl rfl rfl
    have h4 := or_le (T := T) (s := m) hm hk
    simp only [fLaying_howMany_L52, canFollowX hT hx' (show m < 64 by omega) hk]
    simp (disch := omega) only [zk_let, Option.bind_some, cond_true, cond_false, if_true, if_false, zbF, zbT, within_in, jn9, k0, k1, k2, k3, k4, k5, k6, k7, k8, k9, k10, k12, k16, k17, k20, k29, k30, k31, k32, k36, k40, k41, k42, k48, k57, k59, k60, k64, k98, k99, k100, k112, k128, k200, k255, k256, k378, k420, k999, k1000000, jN_add, jN_mul, jN_clamp, jN_inbT, Bool.false_eq_true, Bool.true_eq_false, hx'.2.1, jN_le, sh1, jN_or, zk_u_row, zk_row_row, zk_row_on]
    rw [if_neg (by omega)]
    by_cases c : ml T m k = true
    · have e2 : wU T m r (k + 1) = upd (wU T m r k) (m ||| 2 ^ k) (wU T m r k (m ||| 2 ^ k) + wU T m r k m) := if_pos c
      rw [e2, c, if_neg (by decide)]; rfl
    · have e2 : wU T m r (k + 1) = wU T m r k := if_neg c
      have cf : ml T m k = false := by simpa using c
      rw [e2, cf, if_pos rfl]; rfl
  · intro n
    have hx' : zTx T (zk_row y 45 (wU T m r (T 0 1))).1 := hx.congr rfl rfl rfl rfl rfl rfl rfl rfl
    simp only [fLaying_howMany_L52]
    simp (disch := omega) only [zk_let, Option.bind_some, cond_true, cond_false, if_true, if_false, zbF, zbT, within_in, jn9, k0, k1, k2, k3, k4, k5, k6, k7, k8, k9, k10, k12, k16, k17, k20, k29, k30, k31, k32, k36, k40, k41, k42, k48, k57, k59, k60, k64, k98, k99, k100, k112, k128, k200, k255, k256, k378, k420, k999, k1000000, jN_add, jN_mul, jN_clamp, jN_inbT, Bool.false_eq_true, Bool.true_eq_false, hx'.2.1, jN_le]
    rw [if_pos (by omega)]
theorem many37 {T : Nat → Nat → Nat} {y : zkM} {r : Nat → Int32} (hT : zTb T) (hx : zTx T y.1) : fLaying_howMany_L37 500 (zk_row y 45 r) (jN (fl T + 1)) (jN 0) = some (zk_row y 45 (wF T r (fl T + 1))) := by
  have t2 := hT.2.1
  have f64 := fl_64 hT
  have := zl_eq (fun n (q : zkM × Int32) => fLaying_howMany_L37 n q.1 (jN (fl T + 1)) q.2) (fun k => (zk_row y 45 (wF T r k), jN k)) (fl T + 1) (zk_row y 45 (wF T r (fl T + 1))) ?_ ?_ 500 (by omega)
  · exact this
  · intro n k hk
    have hx' : zTx T (zk_row y 45 (wF T r k)).1 := hx.congr rfl rfl rfl rfl rfl rfl rfl rfl
    simp only [fLaying_howMany_L37, reachedX hT hx' (show k < 64 by omega), Option.bind_some, k0, many52 hT hx (show k ≤ fl T by omega)]
    simp (disch := omega) only [zk_let, Option.bind_some, cond_true, cond_false, if_true, if_false, zbF, zbT, within_in, jn9, k0, k1, k2, k3, k4, k5, k6, k7, k8, k9, k10, k12, k16, k17, k20, k29, k30, k31, k32, k36, k40, k41, k42, k48, k57, k59, k60, k64, k98, k99, k100, k112, k128, k200, k255, k256, k378, k420, k999, k1000000, jN_add, jN_mul, jN_clamp, jN_inbT, Bool.false_eq_true, Bool.true_eq_false, jN_le]
    rw [if_neg (by omega)]
    rfl
  · intro n
    simp only [fLaying_howMany_L37]
    simp (disch := omega) only [zk_let, Option.bind_some, cond_true, cond_false, if_true, if_false, zbF, zbT, within_in, jn9, k0, k1, k2, k3, k4, k5, k6, k7, k8, k9, k10, k12, k16, k17, k20, k29, k30, k31, k32, k36, k40, k41, k42, k48, k57, k59, k60, k64, k98, k99, k100, k112, k128, k200, k255, k256, k378, k420, k999, k1000000, jN_add, jN_mul, jN_clamp, jN_inbT, Bool.false_eq_true, Bool.true_eq_false, jN_le]
    rw [if_pos (by omega)]
theorem manyX {T : Nat → Nat → Nat} {y : zkM} (hT : zTb T) (hx : zTx T y.1) : ∃ r, fLaying_howMany y = some (jN (oN T 0), zk_row y 45 r) := by
  have t2 := hT.2.1
  have f64 := fl_64 hT
  have fs := fl_s T
  obtain ⟨r, e1, hr⟩ := many9 (y := y) hT
  refine ⟨wF T r (fl T + 1), ?_⟩
  unfold fLaying_howMany
  simp (disch := omega) only [zk_let, Option.bind_some, cond_true, cond_false, if_true, if_false, zbF, zbT, within_in, jn9, k0, k1, k2, k3, k4, k5, k6, k7, k8, k9, k10, k12, k16, k17, k20, k29, k30, k31, k32, k36, k40, k41, k42, k48, k57, k59, k60, k64, k98, k99, k100, k112, k128, k200, k255, k256, k378, k420, k999, k1000000, jN_add, jN_mul, jN_clamp, jN_inbT, Bool.false_eq_true, Bool.true_eq_false, hx.2.1, sh1]
  rw [← fs, e1]
  simp only [Option.bind_some]
  rw [many37 hT hx, jN_sub (by omega), Nat.add_sub_cancel]
  simp (disch := omega) only [zk_let, Option.bind_some, cond_true, cond_false, if_true, if_false, zbF, zbT, within_in, jn9, k0, k1, k2, k3, k4, k5, k6, k7, k8, k9, k10, k12, k16, k17, k20, k29, k30, k31, k32, k36, k40, k41, k42, k48, k57, k59, k60, k64, k98, k99, k100, k112, k128, k200, k255, k256, k378, k420, k999, k1000000, jN_add, jN_mul, jN_clamp, jN_inbT, Bool.false_eq_true, Bool.true_eq_false, zk_row_on, wF_end hr]
/-! the first order -/
theorem gr_pc {T : Nat → Nat → Nat} (hT : zTb T) (k : Nat) : pc (gr T k) ≤ k := by
  have t2 := hT.2.1
  induction k with
  | zero => exact (by decide : pc 0 ≤ 0)
  | succ k ih =>
    by_cases c : nxt T (gr T k) < T 0 1
    · have hy : ml T (gr T k) (nxt T (gr T k)) = true := (fn_yes (c := ml T (gr T k)) (T 0 1) 0 (by rw [Nat.zero_add]; exact c)).1
      rw [gr_in c, pc_or _ (gr_64 hT k) _ (by omega) (ml_new hy)]; omega
    · rw [gr_out c]; omega
theorem gr_stay {T : Nat → Nat → Nat} {k : Nat} (h : ¬ nxt T (gr T k) < T 0 1) (d : Nat) : gr T (k + d) = gr T k := by
  induction d with
  | zero => rfl
  | succ d ih =>
    have : ¬ nxt T (gr T (k + d)) < T 0 1 := by rw [ih]; exact h
    rw [show k + (d + 1) = (k + d) + 1 by omega, gr_out this, ih]
theorem pc_fl : ∀ P, P < 7 → pc (2 ^ P - 1) = P := by decide +kernel
theorem gr_next {T : Nat → Nat → Nat} (hT : zTb T) (h : gr T (T 0 1) = fl T) {k : Nat} (hk : k < T 0 1) : nxt T (gr T k) < T 0 1 := by
  have t2 := hT.2.1
  refine Classical.byContradiction (fun c => ?_)
  have h1 := gr_stay c (T 0 1 - k)
  rw [show k + (T 0 1 - k) = T 0 1 by omega, h] at h1
  have h2 := gr_pc hT k
  rw [← h1] at h2
  have h3 := pc_fl (T 0 1) (by omega)
  unfold fl at h2
  omega
theorem nv_all : ∀ P, P < 7 → ∀ b, b < 64 → b < 2 ^ P → (jN (2 ^ P) - jN 1) &&& (jN b ^^^ -jN 1) = jN 0 ∨ b ≠ 2 ^ P - 1 := by decide +kernel
theorem nv_not : ∀ P, P < 7 → ∀ b, b < 64 → b < 2 ^ P → b = 2 ^ P - 1 ∨ ¬ (jN (2 ^ P) - jN 1) &&& (jN b ^^^ -jN 1) = jN 0 := by decide +kernel
theorem ofFirstX {T : Nat → Nat → Nat} {y : zkM} {i : Nat} (hT : zTb T) (hx : zTx T y.1) (h : gr T (T 0 1) = fl T) (hi : i < T 0 1) : fLaying_ofFirst y (jN i) = some (jN (nxt T (gr T i))) := by
  have t2 := hT.2.1
  unfold fLaying_ofFirst
  have := zl_eq (fun n (q : Int32 × Int32 × Int32) => fLaying_ofFirst_L9 n y (jN i) q.1 q.2.1 q.2.2) (fun k => (jN (gr T k), (if k = 0 then jNo else jN (nxt T (gr T (k - 1)))), jN k)) (i + 1) (.inr (jN (nxt T (gr T i)))) ?_ ?_ 500 (by omega)
  · rw [k0, jNo_def]
    dsimp only at this
    rw [if_pos rfl] at this
    rw [show gr T 0 = 0 from rfl] at this
    rw [this]; rfl
  · intro n k hk
    have hn := gr_next hT h (show k < T 0 1 by omega)
    simp only [fLaying_ofFirst_L9, leastX2 hT hx (gr_64 hT k)]
    rw [if_pos hn]
    simp (disch := omega) only [zk_let, Option.bind_some, cond_true, cond_false, if_true, if_false, zbF, zbT, within_in, jn9, k0, k1, k2, k3, k4, k5, k6, k7, k8, k9, k10, k12, k16, k17, k20, k29, k30, k31, k32, k36, k40, k41, k42, k48, k57, k59, k60, k64, k98, k99, k100, k112, k128, k200, k255, k256, k378, k420, k999, k1000000, jN_add, jN_mul, jN_clamp, jN_inbT, Bool.false_eq_true, Bool.true_eq_false, hx.2.1, jN_le, jN_lt, sh1, jN_or]
    rw [if_neg (by omega), if_neg (by omega), if_neg (jN_no (by omega)), if_neg (by omega), gr_in hn, Nat.add_sub_cancel]
  · intro n
    simp only [fLaying_ofFirst_L9]
    simp (disch := omega) only [zk_let, Option.bind_some, cond_true, cond_false, if_true, if_false, zbF, zbT, within_in, jn9, k0, k1, k2, k3, k4, k5, k6, k7, k8, k9, k10, k12, k16, k17, k20, k29, k30, k31, k32, k36, k40, k41, k42, k48, k57, k59, k60, k64, k98, k99, k100, k112, k128, k200, k255, k256, k378, k420, k999, k1000000, jN_add, jN_mul, jN_clamp, jN_inbT, Bool.false_eq_true, Bool.true_eq_false, jN_lt]
    rw [if_pos (by omega), if_neg (by omega), Nat.add_sub_cancel]
theorem orders60 {T : Nat → Nat → Nat} {z : zkM} {s : Nat} (hT : zTb T) (hm : zTm T z.1) (hr : ∀ t, t ≤ fl T → z.1 19 t = jN (oN T t)) (ho : okT T) (hs : s ≤ fl T) (hn : nxt T s < T 0 1) : fMd_orders_L60 500 z (jN s) (jN 0) = some (jN (nxt T s)) := by
  have t2 := hT.2.1
  have f64 := fl_64 hT
  obtain ⟨y1, -, y3⟩ := fn_yes (c := ml T s) (T 0 1) 0 (by rw [Nat.zero_add]; exact hn)
  have y1' : ml T s (nxt T s) = true := y1
  have := zl_eq (fun n (q : Int32) => fMd_orders_L60 n z (jN s) q) (fun k => jN k) (nxt T s) (jN (nxt T s)) ?_ ?_ 500 (by omega)
  · exact this
  · intro n k hk
    have hml : ml T s k = false := y3 k (by omega) hk
    simp only [fMd_orders_L60, mayLayM hT hm (show s < 64 by omega) (show k < T 0 1 by omega), hml]
    simp only [zk_let, Option.bind_some, cond_true, cond_false, if_true, if_false, zbF, zbT, within_in, jn9, k0, k1, k2, k3, k4, k5, k6, k7, k8, k9, k10, k12, k16, k17, k20, k29, k30, k31, k32, k36, k40, k41, k42, k48, k57, k59, k60, k64, k98, k99, k100, k112, k128, k200, k255, k256, k378, k420, k999, k1000000, jN_add, jN_mul, jN_clamp, jN_inbT, Bool.false_eq_true, Bool.true_eq_false]
  · intro n
    have h4 := or_le (T := T) (s := s) hs hn
    have h5 := oN_pos ho (fl T - (s ||| 2 ^ nxt T s)) (s ||| 2 ^ nxt T s) (by omega)
    have h6 := oN_lt hT h4
    simp only [fMd_orders_L60, mayLayM hT hm (show s < 64 by omega) hn, y1']
    simp (disch := omega) only [zk_let, Option.bind_some, cond_true, cond_false, if_true, if_false, zbF, zbT, within_in, jn9, k0, k1, k2, k3, k4, k5, k6, k7, k8, k9, k10, k12, k16, k17, k20, k29, k30, k31, k32, k36, k40, k41, k42, k48, k57, k59, k60, k64, k98, k99, k100, k112, k128, k200, k255, k256, k378, k420, k999, k1000000, jN_add, jN_mul, jN_clamp, jN_inbT, Bool.false_eq_true, Bool.true_eq_false, sh1, jN_or, hr _ h4, jN_eq]
    rw [if_neg (by omega)]
theorem orders52 {T : Nat → Nat → Nat} {z : zkM} {i : Nat} (hT : zTb T) (hm : zTm T z.1) (hr : ∀ t, t ≤ fl T → z.1 19 t = jN (oN T t)) (h : gr T (T 0 1) = fl T) (hi : i < T 0 1) : fMd_orders_L52 500 z (jN i) (jN 0) (jN 0) (jN 0) = some (jN (nxt T (gr T i))) := by
  have t2 := hT.2.1
  have fs := fl_s T
  have := zl_eq (fun n (q : Int32 × Int32 × Int32) => fMd_orders_L52 n z (jN i) q.1 q.2.1 q.2.2) (fun k => (jN (gr T k), (if k = 0 then jN 0 else jN (nxt T (gr T (k - 1)))), jN k)) (i + 1) (jN (nxt T (gr T i))) ?_ ?_ 500 (by omega)
  · dsimp only at this
    rw [if_pos rfl] at this
    exact this
  · intro n k hk
    have hn := gr_next hT h (show k < T 0 1 by omega)
    have hg := gr_lt T k
    simp only [fMd_orders_L52, k0, orders60 hT hm hr (okT_of h) (show gr T k ≤ fl T by omega) hn]
    simp (disch := omega) only [zk_let, Option.bind_some, cond_true, cond_false, if_true, if_false, zbF, zbT, within_in, jn9, k0, k1, k2, k3, k4, k5, k6, k7, k8, k9, k10, k12, k16, k17, k20, k29, k30, k31, k32, k36, k40, k41, k42, k48, k57, k59, k60, k64, k98, k99, k100, k112, k128, k200, k255, k256, k378, k420, k999, k1000000, jN_add, jN_mul, jN_clamp, jN_inbT, Bool.false_eq_true, Bool.true_eq_false, jN_lt, sh1, jN_or]
    rw [if_neg (by omega), if_neg (by omega), gr_in hn, Nat.add_sub_cancel]
  · intro n
    simp only [fMd_orders_L52]
    simp (disch := omega) only [zk_let, Option.bind_some, cond_true, cond_false, if_true, if_false, zbF, zbT, within_in, jn9, k0, k1, k2, k3, k4, k5, k6, k7, k8, k9, k10, k12, k16, k17, k20, k29, k30, k31, k32, k36, k40, k41, k42, k48, k57, k59, k60, k64, k98, k99, k100, k112, k128, k200, k255, k256, k378, k420, k999, k1000000, jN_add, jN_mul, jN_clamp, jN_inbT, Bool.false_eq_true, Bool.true_eq_false, jN_lt]
    rw [if_pos (by omega), if_neg (by omega), Nat.add_sub_cancel]
theorem pr_orders {y z : zkM} (h : zRel y z) (a1 : Int32) : ∃ v y' z', sX_orders y a1 v y' ∧ sM_orders z a1 v z' ∧ zRel y' z' := by
  obtain ⟨T, R, hA⟩ := h.all
  obtain ⟨hT, hx, hm, -⟩ := id hA
  have t2 := hT.2.1
  have f64 := fl_64 hT
  obtain ⟨r, e1, hr⟩ := findM hT hm
  obtain ⟨w, e2⟩ := manyX hT hx
  have km : zKm z (zk_row z 19 r) := zKm.row (by omega)
  have kx : zKx y (zk_row y 45 w) := zKx.row rfl (by omega) (by omega) (by omega)
  unfold sX_orders sM_orders fTp_orders fMd_orders
  have b1 := Int32.le_toInt a1
  have b2 := Int32.toInt_lt a1
  rw [iI_of a1]
  generalize a1.toInt = n at b1 b2
  rw [im1, i0]
  simp (disch := omega) only [iI_le, iI_eq]
  by_cases c1 : -1 ≤ n
  · rw [if_pos c1, if_pos c1, e1]
    simp only [Option.bind_some]
    by_cases c2 : n = -1
    · rw [if_pos c2, if_neg (by omega), e2]
      exact ⟨jN (oN T 0), _, _, rfl, by rw [zk_row_on]; show some (r 0, _) = _; rw [hr 0 (by omega)], (hA.same kx km).rel⟩
    · rw [if_neg c2, if_pos (show (0 : Int) ≤ n by omega)]
      obtain ⟨i, rfl⟩ : ∃ i : Nat, n = (i : Int) := ⟨n.toNat, by omega⟩
      rw [jN_def]
      have hz0 : (zk_row z 19 r).1 19 (Int32.toNatClampNeg (iI 0)) = jN (oN T 0) := by rw [zk_row_on]; exact hr 0 (by omega)
      have hz2 : (zk_row z 19 r).1 0 2 = jN (T 0 1) := by rw [zk_row_off (by omega)]; exact hm.2.1
      have hlt := oN_lt hT (show 0 ≤ fl T by omega)
      have hg := gr_lt T (T 0 1)
      have h64 := gr_64 hT (T 0 1)
      have hnv : fLaying_neverLaid y = some ((jN (2 ^ T 0 1) - jN 1) &&& (jN (gr T (T 0 1)) ^^^ -jN 1)) := by
        unfold fLaying_neverLaid
        rw [k0, neverX4 hT hx, hx.2.1, k1, k31, sh1 (by omega)]; rfl
      rw [hnv, hz0, hz2, hx.2.1]
      simp only [Option.bind_some]
      rw [show iI 0 = jN 0 from rfl]
      by_cases c3 : gr T (T 0 1) = fl T
      · have hv : (jN (2 ^ T 0 1) - jN 1) &&& (jN (gr T (T 0 1)) ^^^ -jN 1) = jN 0 := by
          rcases nv_all (T 0 1) (by omega) _ h64 hg with h9 | h9
          · exact h9
          · exact absurd c3 h9
        have hp := oN_pos (okT_of c3) (fl T) 0 (by omega)
        have hne : ¬ jN (oN T 0) = jN 0 := by rw [jN_eq (by omega) (by omega)]; omega
        rw [if_pos hv, if_neg hne]
        simp (disch := omega) only [jN_le, jN_lt]
        by_cases c4 : i < T 0 1
        · rw [if_neg (show ¬ T 0 1 ≤ i by omega), if_pos c4, ofFirstX hT hx c3 c4, orders52 (z := zk_row z 19 r) hT (hm.congr rfl rfl rfl rfl rfl rfl) (by rw [zk_row_on]; exact hr) c3 c4]
          exact ⟨_, y, _, rfl, rfl, (hA.same (zKx.rf y) km).rel⟩
        · rw [if_pos (show T 0 1 ≤ i by omega), if_neg c4]
          exact ⟨_, y, _, rfl, rfl, (hA.same (zKx.rf y) km).rel⟩
      · have hv : ¬ (jN (2 ^ T 0 1) - jN 1) &&& (jN (gr T (T 0 1)) ^^^ -jN 1) = jN 0 := by
          rcases nv_not (T 0 1) (by omega) _ h64 hg with h9 | h9
          · exact absurd h9 c3
          · exact h9
        rw [if_neg hv, oN_zero hT c3 (fl T) 0 (by omega) sub_0, if_pos rfl]
        exact ⟨_, y, _, rfl, rfl, (hA.same (zKx.rf y) km).rel⟩
  · rw [if_neg c1, if_neg c1]
    exact ⟨_, y, z, rfl, rfl, h⟩
