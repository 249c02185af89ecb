/-! firstOut, bolts -/
/-- newly out -/
def nB (R R' : Nat → Nat → Nat) (e : Nat) : Bool := oB R' e && !oB R e
theorem fa_more {c : Nat → Bool} {m : Nat} : ∀ n j, (∀ k, j + n ≤ k → c k = false) → fa c j (n + m) = fa c j n := by
  intro n
  induction n with
  | zero =>
    intro j h
    rw [Nat.zero_add]
    have : ∀ m j, (∀ k, j ≤ k → c k = false) → fa c j m = jNo := by
      intro m
      induction m with
      | zero => intro j h; rfl
      | succ m ih => intro j h; simp only [fa]; rw [if_neg (by rw [h j (by omega)]; simp)]; exact ih (j + 1) (fun k hk => h k (by omega))
    exact this m j h
  | succ n ih =>
    intro j h
    rw [show n + 1 + m = (n + m) + 1 by omega]
    simp only [fa]
    rw [ih (j + 1) (fun k hk => h k (by omega))]
theorem ntz_all : ∀ a, a < 64 → ∀ b, b < 64 → 64 * a + b = 0 ∨ fJint_numberOfTrailingZeros (jN (64 * a + b)) = fa (fun i => (64 * a + b).testBit i) 0 12 := by decide +kernel
theorem ntz_bs {f : Nat → Bool} {K : Nat} (h : K ≤ 12) (hn : bs f K ≠ 0) : fJint_numberOfTrailingZeros (jN (bs f K)) = fa f 0 K := by
  have h1 := bs_lt f K
  have h2 : 2 ^ K ≤ 2 ^ 12 := Nat.pow_le_pow_right (by omega) h
  generalize hv : bs f K = v at *
  rcases ntz_all (v / 64) (by omega) (v % 64) (by omega) with h3 | h3
  · omega
  · rw [show 64 * (v / 64) + v % 64 = v by omega] at h3
    rw [h3, show 12 = K + (12 - K) by omega, fa_more K 0 (fun k hk => by rw [← hv, bs_bit]; simp; omega)]
    exact fa_congr K 0 (fun k h4 h5 => by rw [← hv, bs_bit]; simp; omega)
theorem bs_inj {f g : Nat → Bool} {K : Nat} : bs f K = bs g K ↔ ∀ k, k < K → f k = g k := by
  constructor
  · intro h k hk
    have := congrArg (fun v => v.testBit k) h
    simp only [bs_bit, hk, decide_true, Bool.true_and] at this
    exact this
  · exact bs_congr
theorem bs_zero {f : Nat → Bool} {K : Nat} (hK : K < 1000) : bs f K = 0 ↔ fa f 0 K = jNo := by
  rw [fa_no K 0 (by omega)]
  have e : (0 : Nat) = bs (fun _ => false) K := by
    apply Nat.eq_of_testBit_eq
    intro i; rw [bs_bit]; simp
  rw [e, bs_inj]
  constructor
  · intro h k h1 h2; exact h k (by omega)
  · intro h k hk; exact h k (by omega) (by omega)
theorem newM {T R R' : Nat → Nat → Nat} {z : zkM} (hT : zTb T) (hm : zTm T z.1) (hS : zEb T R) (hS' : zEb T R') (s4 : zSm T R (z.1 4)) (s16 : zEm T R' 0 (z.1 16)) : fMd_firstNew z = some (fa (nB R R') 0 (2 * T 0 1)) := by
  obtain ⟨t1, t2, t3, t4, t5, t6⟩ := id hT
  unfold fMd_firstNew
  simp only [zk_let, hm.2.1, jNo_def, k1, k2, jN_mul, dn_f]
  have := fa_dn (fun n v k => fMd_firstNew_L12 n z v (dn k)) (nB R R') (2 * T 0 1) ?_ ?_ (2 * T 0 1) 500 (by omega) (by omega)
  · rw [Nat.sub_self] at this
    simp only [fa] at this
    rw [this]; rfl
  · intro n v k hk
    have e1 := (s16 k hk).2.2
    have e2 := (s4.2.2 k hk).2.2
    rw [show 0 + 3 * k + 2 = 3 * k + 2 by omega] at e1
    rw [show 8 + 3 * k = 6 + 3 * k + 2 by omega] at e2
    have b1 := (hS k hk).2.2.1
    have b2 := (hS' k hk).2.2.1
    simp only [fMd_firstNew_L12, dn_s]
    simp (disch := omega) only [zk_let, Option.bind_some, cond_true, cond_false, if_true, if_false, zbF, zbT, within_in, jn9, k0, k1, k2, k3, k4, k5, k6, k7, k8, k9, k10, k12, k16, k17, k20, k29, k30, k31, k32, k36, k40, k41, k42, k48, k57, k59, k60, k64, k98, k99, k100, k112, k128, k200, k255, k256, k378, k420, k999, k1000000, jN_add, jN_mul, jN_clamp, jN_inbT, Bool.false_eq_true, Bool.true_eq_false, jN_lt, jN_le, e1, e2, dn_m]
    rw [if_neg (by omega)]
    by_cases c1 : R' 2 k = 1 <;> by_cases c2 : R 2 k = 1
    · rw [if_pos (by omega), if_neg (show ¬ nB R R' k = true by simp [nB, oB, c2])]
    · rw [if_neg (by omega), if_pos (show nB R R' k = true by simp [nB, oB, c1, c2])]
    · rw [if_pos (by omega), if_neg (show ¬ nB R R' k = true by simp [nB, oB, c2])]
    · rw [if_pos (by omega), if_neg (show ¬ nB R R' k = true by simp [nB, oB, c1])]
  · intro n v
    simp only [fMd_firstNew_L12]
    rw [if_pos dn_0]
theorem outSetM {T R R' : Nat → Nat → Nat} {z : zkM} (hT : zTb T) (hm : zTm T z.1) (hS : zEb T R) (hS' : zEb T R') (s4 : zSm T R (z.1 4)) (s16 : zEm T R' 0 (z.1 16)) : fMd_outSet z = some (jN (bs (nB R R') (2 * T 0 1))) := by
  obtain ⟨t1, t2, t3, t4, t5, t6⟩ := id hT
  unfold fMd_outSet
  have := zl_eq (fun n (s : Int32 × Int32) => fMd_outSet_L4 n z s.1 s.2) (fun k => (jN (bs (nB R R') k), jN k)) (2 * T 0 1) (jN (bs (nB R R') (2 * T 0 1))) ?_ ?_ 500 (by omega)
  · rw [k0]; dsimp only at this; rw [show bs (nB R R') 0 = 0 from rfl] at this; rw [this]; rfl
  · intro n k hk
    have e1 := (s16 k hk).2.2
    have e2 := (s4.2.2 k hk).2.2
    rw [show 0 + 3 * k + 2 = 3 * k + 2 by omega] at e1
    rw [show 8 + 3 * k = 6 + 3 * k + 2 by omega] at e2
    have b1 := (hS k hk).2.2.1
    have b2 := (hS' k hk).2.2.1
    simp only [fMd_outSet_L4]
    simp (disch := omega) only [zk_let, Option.bind_some, cond_true, cond_false, if_true, if_false, zbF, zbT, within_in, jn9, k0, k1, k2, k3, k4, k5, k6, k7, k8, k9, k10, k12, k16, k17, k20, k29, k30, k31, k32, k36, k40, k41, k42, k48, k57, k59, k60, k64, k98, k99, k100, k112, k128, k200, k255, k256, k378, k420, k999, k1000000, jN_add, jN_mul, jN_clamp, jN_inbT, Bool.false_eq_true, Bool.true_eq_false, hm.2.1, jN_le, e1, e2]
    rw [if_neg (by omega)]
    have ho : jN (bs (nB R R') k) ||| jN 0 = jN (bs (nB R R') k) := by rw [jN_or, Nat.or_zero]
    by_cases c1 : R' 2 k = 1 <;> by_cases c2 : R 2 k = 1
    · rw [if_pos (by omega), bs_out (show nB R R' k = false by simp [nB, oB, c2]), ho]
    · rw [if_neg (by omega), bs_in (by omega) (show nB R R' k = true by simp [nB, oB, c1, c2])]
    · rw [if_pos (by omega), bs_out (show nB R R' k = false by simp [nB, oB, c2]), ho]
    · rw [if_pos (by omega), bs_out (show nB R R' k = false by simp [nB, oB, c1]), ho]
  · intro n
    simp only [fMd_outSet_L4]
    simp (disch := omega) only [zk_let, Option.bind_some, cond_true, cond_false, if_true, if_false, zbF, zbT, within_in, jn9, k0, k1, k2, k3, k4, k5, k6, k7, k8, k9, k10, k12, k16, k17, k20, k29, k30, k31, k32, k36, k40, k41, k42, k48, k57, k59, k60, k64, k98, k99, k100, k112, k128, k200, k255, k256, k378, k420, k999, k1000000, jN_add, jN_mul, jN_clamp, jN_inbT, Bool.false_eq_true, Bool.true_eq_false, hm.2.1, jN_le]
    rw [if_pos (by omega)]
theorem bitsL {T R : Nat → Nat → Nat} {y : zkM} {r : Nat → Int32} (hT : zTb T) (hS : zEb T R) (hx : zTx T y.1) (sx : zSx T R r) : fScene_outBitsL (zk_row y 40 r) = some (jN (bs (oB R) (2 * T 0 1))) :=
  outBitsL_spec (by rw [zk_row_off (by omega)]; exact hx.2.1) hT.2.1 (fun e he => ⟨by rw [zk_row_on]; exact (sx.2.2 e he).2.2, (hS e he).2.2.1⟩)
theorem bitsN {T R : Nat → Nat → Nat} {y : zkM} {r : Nat → Int32} (hT : zTb T) (hS : zEb T R) (hx : zTx T y.1) (sx : zSx T R (y.1 5)) : fScene_outBits (zk_row y 40 r) = some (jN (bs (oB R) (2 * T 0 1))) :=
  outBits_spec (by rw [zk_row_off (by omega)]; exact hx.2.1) hT.2.1 (fun e he => ⟨by rw [zk_row_off (by omega)]; exact (sx.2.2 e he).2.2, (hS e he).2.2.1⟩)
/-- some END is newly out behind n GALES -/
def cN (T R : Nat → Nat → Nat) (g n : Nat) : Prop := ¬ fa (nB R (blN T R g n)) 0 (2 * T 0 1) = jNo
theorem cN_bits {T R : Nat → Nat → Nat} {g : Nat} (hT : zTb T) (hS : zEb T R) (hg : g ≤ 9) (n : Nat) : jN (bs (oB (blN T R g n)) (2 * T 0 1)) = jN (bs (oB R) (2 * T 0 1)) ↔ ¬ cN T R g n := by
  have t2 := hT.2.1
  have l1 := bs_lt (oB (blN T R g n)) (2 * T 0 1)
  have l2 := bs_lt (oB R) (2 * T 0 1)
  have l3 : 2 ^ (2 * T 0 1) ≤ 2 ^ 12 := Nat.pow_le_pow_right (by omega) (by omega)
  rw [jN_eq (by omega) (by omega), bs_inj]
  unfold cN
  rw [Decidable.not_not, fa_no _ 0 (by omega)]
  constructor
  · intro h k h1 h2
    unfold nB; rw [h k (by omega)]; simp
  · intro h k hk
    have h1 := h k (by omega) (by omega)
    unfold nB at h1
    cases e : oB R k with
    | true =>
      have : R 2 k = 1 := by simpa [oB] using e
      simp [oB, blN_out hk this n]
    | false => rw [e] at h1; simpa using h1
theorem pr_firstOut {y z : zkM} (h : zRel y z) (a1 : Int32) (a2 : Int32) : ∃ v y' z', sX_firstOut y a1 a2 v y' ∧ sM_firstOut z a1 a2 v z' ∧ zRel y' z' := by
  obtain ⟨T, R, hA0⟩ := h.all
  obtain ⟨hT, hx, hm, hS, sx, sm, -⟩ := id hA0
  have t2 := hT.2.1
  obtain ⟨r, e3, hr, kn⟩ := hA0.ends
  have hE : zEb T R := hS.2
  obtain ⟨q, e4, hq⟩ := cpL hT sx
  unfold sX_firstOut sM_firstOut fTp_firstOut fMd_firstOut fTp_isForce fMd_isForce fForecast_endFirstOut fForecast_galesToFirstOut
  simp only [within_in, zbF, k0, k1, k2, k3, k4, k5, k6, k7, k8, k9, k10, k12, k16, k17, k20, k29, k30, k31, k32, k36, k40, k41, k42, k48, k57, k59, k60, k64, k98, k99, k100, k112, k128, k200, k255, k256, k378, k420, k999, k1000000]
  rcases in_fr a1 (lo := 1) (hi := 9) (by omega) (by omega) with ⟨hw, g, -, hg, rfl⟩ | ⟨hw, -⟩
  · simp only [hw, Bool.true_eq_false, if_false]
    rcases in_fr a2 (lo := 0) (hi := 1) (by omega) (by omega) with ⟨hv, w, -, hw1, rfl⟩ | ⟨hv, -⟩
    · simp only [hv, Bool.true_eq_false, if_false, e3, e4, Option.bind_some, zk_let, jn9, bitsN hT hE hx sx]
      have sx' : ∀ n s k, k < 61 → (∃ r, s = zk_row y 40 r ∧ zSx T (blN T R g (k - 1)) r ∧ 1 ≤ k) → ¬ cN T R g k → ∃ s', fForecast_galesToFirstOut_L21 (n + 1) s (jN g) (jN (bs (oB R) (2 * T 0 1))) (jN k) = fForecast_galesToFirstOut_L21 n s' (jN g) (jN (bs (oB R) (2 * T 0 1))) (jN (k + 1)) ∧ ∃ r, s' = zk_row y 40 r ∧ zSx T (blN T R g (k + 1 - 1)) r ∧ 1 ≤ k + 1 := by
        rintro n s k hk ⟨r, rfl, hr, h1⟩ hc
        obtain ⟨r', e, hr'⟩ := blowL_row hT (hE.blN hT hg (k - 1)) hx hr hg
        have hr2 : zSx T (blN T R g k) r' := by rw [show k = k - 1 + 1 by omega]; exact hr'
        refine ⟨_, ?_, r', rfl, hr2, by omega⟩
        simp only [fForecast_galesToFirstOut_L21, e, Option.bind_some, bitsL hT (hE.blN hT hg k) hx hr2]
        simp (disch := omega) only [zk_let, Option.bind_some, cond_true, cond_false, if_true, if_false, zbF, zbT, within_in, jn9, k0, k1, k2, k3, k4, k5, k6, k7, k8, k9, k10, k12, k16, k17, k20, k29, k30, k31, k32, k36, k40, k41, k42, k48, k57, k59, k60, k64, k98, k99, k100, k112, k128, k200, k255, k256, k378, k420, k999, k1000000, jN_add, jN_mul, jN_clamp, jN_inbT, Bool.false_eq_true, Bool.true_eq_false, jN_lt]
        rw [if_neg (by omega), if_pos ((cN_bits hT hE hg k).mpr hc)]
      have cx' : ∀ n s k, k < 61 → (∃ r, s = zk_row y 40 r ∧ zSx T (blN T R g (k - 1)) r ∧ 1 ≤ k) → cN T R g k → ∃ v, fForecast_galesToFirstOut_L21 (n + 1) s (jN g) (jN (bs (oB R) (2 * T 0 1))) (jN k) = some (.inl v) ∧ ∃ r, v = (jN k, zk_row y 40 r) ∧ zSx T (blN T R g k) r := by
        rintro n s k hk ⟨r, rfl, hr, h1⟩ hc
        obtain ⟨r', e, hr'⟩ := blowL_row hT (hE.blN hT hg (k - 1)) hx hr hg
        have hr2 : zSx T (blN T R g k) r' := by rw [show k = k - 1 + 1 by omega]; exact hr'
        refine ⟨_, ?_, r', rfl, hr2⟩
        simp only [fForecast_galesToFirstOut_L21, e, Option.bind_some, bitsL hT (hE.blN hT hg k) hx hr2]
        simp (disch := omega) only [zk_let, Option.bind_some, cond_true, cond_false, if_true, if_false, zbF, zbT, within_in, jn9, k0, k1, k2, k3, k4, k5, k6, k7, k8, k9, k10, k12, k16, k17, k20, k29, k30, k31, k32, k36, k40, k41, k42, k48, k57, k59, k60, k64, k98, k99, k100, k112, k128, k200, k255, k256, k378, k420, k999, k1000000, jN_add, jN_mul, jN_clamp, jN_inbT, Bool.false_eq_true, Bool.true_eq_false, jN_lt]
        rw [if_neg (by omega), if_neg (fun e => (cN_bits hT hE hg k).mp e hc)]
      have nx' : ∀ n s, (∃ r, s = zk_row y 40 r ∧ zSx T (blN T R g (61 - 1)) r ∧ 1 ≤ 61) → fForecast_galesToFirstOut_L21 (n + 1) s (jN g) (jN (bs (oB R) (2 * T 0 1))) (jN 61) = some (.inr s) := by
        rintro n s ⟨r, rfl, hr⟩
        simp only [fForecast_galesToFirstOut_L21]
        simp (disch := omega) only [zk_let, Option.bind_some, cond_true, cond_false, if_true, if_false, zbF, zbT, within_in, jn9, k0, k1, k2, k3, k4, k5, k6, k7, k8, k9, k10, k12, k16, k17, k20, k29, k30, k31, k32, k36, k40, k41, k42, k48, k57, k59, k60, k64, k98, k99, k100, k112, k128, k200, k255, k256, k378, k420, k999, k1000000, jN_add, jN_mul, jN_clamp, jN_inbT, Bool.false_eq_true, Bool.true_eq_false, jN_lt]
        rfl
      have hnew : ∀ k r, zEm T (blN T R g k) 0 r → fMd_firstNew (zk_row z 16 r) = some (fa (nB R (blN T R g k)) 0 (2 * T 0 1)) := by
        intro k r hr
        exact newM hT (hm.congr rfl rfl rfl rfl rfl rfl) hE (hE.blN hT hg k) (by rw [zk_row_off (by omega)]; exact sm) (by rw [zk_row_on]; exact hr)
      have sm' : ∀ n s k, k < 61 → (∃ r, s = zk_row z 16 r ∧ zEm T (blN T R g (k - 1)) 0 r ∧ 1 ≤ k) → ¬ cN T R g k → ∃ s', fMd_firstOut_L24 (n + 1) s (jN g) (jN w) (jN k) = fMd_firstOut_L24 n s' (jN g) (jN w) (jN (k + 1)) ∧ ∃ r, s' = zk_row z 16 r ∧ zEm T (blN T R g (k + 1 - 1)) 0 r ∧ 1 ≤ k + 1 := by
        rintro n s k hk ⟨r, rfl, hr, h1⟩ hc
        obtain ⟨r', e, hr'⟩ := blows16_row hT (hE.blN hT hg (k - 1)) hm hr hg
        have hr2 : zEm T (blN T R g k) 0 r' := by rw [show k = k - 1 + 1 by omega]; exact hr'
        refine ⟨_, ?_, r', rfl, hr2, by omega⟩
        simp only [fMd_firstOut_L24, k0, e, Option.bind_some, hnew k r' hr2, jNo_def]
        simp (disch := omega) only [zk_let, Option.bind_some, cond_true, cond_false, if_true, if_false, zbF, zbT, within_in, jn9, k0, k1, k2, k3, k4, k5, k6, k7, k8, k9, k10, k12, k16, k17, k20, k29, k30, k31, k32, k36, k40, k41, k42, k48, k57, k59, k60, k64, k98, k99, k100, k112, k128, k200, k255, k256, k378, k420, k999, k1000000, jN_add, jN_mul, jN_clamp, jN_inbT, Bool.false_eq_true, Bool.true_eq_false, jN_lt]
        rw [if_neg (by omega), if_pos (Decidable.not_not.mp hc)]
      have cm' : ∀ n s k, k < 61 → (∃ r, s = zk_row z 16 r ∧ zEm T (blN T R g (k - 1)) 0 r ∧ 1 ≤ k) → cN T R g k → ∃ v, fMd_firstOut_L24 (n + 1) s (jN g) (jN w) (jN k) = some (.inl v) ∧ ∃ r, v = (if w = 0 then jN k else fa (nB R (blN T R g k)) 0 (2 * T 0 1), zk_row z 16 r) := by
        rintro n s k hk ⟨r, rfl, hr, h1⟩ hc
        obtain ⟨r', e, hr'⟩ := blows16_row hT (hE.blN hT hg (k - 1)) hm hr hg
        have hr2 : zEm T (blN T R g k) 0 r' := by rw [show k = k - 1 + 1 by omega]; exact hr'
        refine ⟨_, ?_, r', rfl⟩
        simp only [fMd_firstOut_L24, k0, e, Option.bind_some, hnew k r' hr2, jNo_def]
        simp (disch := omega) only [zk_let, Option.bind_some, cond_true, cond_false, if_true, if_false, zbF, zbT, within_in, jn9, k0, k1, k2, k3, k4, k5, k6, k7, k8, k9, k10, k12, k16, k17, k20, k29, k30, k31, k32, k36, k40, k41, k42, k48, k57, k59, k60, k64, k98, k99, k100, k112, k128, k200, k255, k256, k378, k420, k999, k1000000, jN_add, jN_mul, jN_clamp, jN_inbT, Bool.false_eq_true, Bool.true_eq_false, jN_lt, jN_eq]
        rw [if_neg (by omega), if_neg hc]
        by_cases c0 : w = 0
        · rw [if_pos c0, if_pos c0]
        · rw [if_neg c0, if_neg c0]
      have nm' : ∀ n s, (∃ r, s = zk_row z 16 r ∧ zEm T (blN T R g (61 - 1)) 0 r ∧ 1 ≤ 61) → fMd_firstOut_L24 (n + 1) s (jN g) (jN w) (jN 61) = some (.inr s) := by
        rintro n s ⟨r, rfl, hr⟩
        simp only [fMd_firstOut_L24]
        simp (disch := omega) only [zk_let, Option.bind_some, cond_true, cond_false, if_true, if_false, zbF, zbT, within_in, jn9, k0, k1, k2, k3, k4, k5, k6, k7, k8, k9, k10, k12, k16, k17, k20, k29, k30, k31, k32, k36, k40, k41, k42, k48, k57, k59, k60, k64, k98, k99, k100, k112, k128, k200, k255, k256, k378, k420, k999, k1000000, jN_add, jN_mul, jN_clamp, jN_inbT, Bool.false_eq_true, Bool.true_eq_false, jN_lt]
        rfl
      rcases zl_leastF (cN T R g) 1 61 with ⟨m, hm1, hm9, hc, hn⟩ | hn
      · obtain ⟨v, f1, r1, rfl, hr1⟩ := zl_find (fun n s k => fForecast_galesToFirstOut_L21 n s (jN g) (jN (bs (oB R) (2 * T 0 1))) (jN k)) _ _ _ 61 sx' cx' (m - 1) 1 m 500 (zk_row y 40 q) (by omega) hm9 hn hc ⟨q, rfl, hq, by omega⟩ (by omega)
        obtain ⟨v2, f2, r2, rfl⟩ := zl_find (fun n s k => fMd_firstOut_L24 n s (jN g) (jN w) (jN k)) _ _ _ 61 sm' cm' (m - 1) 1 m 500 (zk_row z 16 r) (by omega) hm9 hn hc ⟨r, rfl, hr, by omega⟩ (by omega)
        have hrel := (hA0.same (zKx.r40 (r := r1)) (zKm.r16 (r := r2))).rel
        by_cases c0 : w = 0
        · subst c0
          refine ⟨jN m, zk_row y 40 r1, zk_row z 16 r2, ?_, ?_, hrel⟩
          · rw [f1]; rfl
          · rw [f2]; rfl
        · refine ⟨fa (nB R (blN T R g m)) 0 (2 * T 0 1), zk_row y 40 r1, zk_row z 16 r2, ?_, ?_, hrel⟩
          · rw [if_neg (by rw [jN_eq (by omega) (by omega)]; omega), f1]
            simp only [Option.bind_some, Sum.elim_inl]
            rw [if_neg (jN_no (by omega)), bitsL hT (hE.blN hT hg m) hx hr1, bitsN hT hE hx sx]
            simp only [Option.bind_some]
            rw [bs_andnot (by omega)]
            have e9 : bs (fun k => oB (blN T R g m) k && !oB R k) (2 * T 0 1) = bs (nB R (blN T R g m)) (2 * T 0 1) := rfl
            rw [e9, ntz_bs (by omega) (fun e => hc ((bs_zero (by omega)).mp e))]
          · rw [f2]; simp only [Option.bind_some, Sum.elim_inl, if_neg c0]
      · obtain ⟨s1, f1, r1, rfl, -⟩ := zl_none (fun n s k => fForecast_galesToFirstOut_L21 n s (jN g) (jN (bs (oB R) (2 * T 0 1))) (jN k)) _ _ 61 sx' nx' 60 1 500 (zk_row y 40 q) (by omega) hn ⟨q, rfl, hq, by omega⟩ (by omega)
        obtain ⟨s2, f2, r2, rfl, -⟩ := zl_none (fun n s k => fMd_firstOut_L24 n s (jN g) (jN w) (jN k)) _ _ 61 sm' nm' 60 1 500 (zk_row z 16 r) (by omega) hn ⟨r, rfl, hr, by omega⟩ (by omega)
        refine ⟨jNo, zk_row y 40 r1, zk_row z 16 r2, ?_, ?_, (hA0.same zKx.r40 zKm.r16).rel⟩
        · rw [f1]
          by_cases c0 : jN w = jN 0
          · rw [if_pos c0]; rfl
          · rw [if_neg c0]; rfl
        · rw [f2]; rfl
    · exact ⟨-jN 1, y, z, by simp [hv], by simp [hv], h⟩
  · exact ⟨-jN 1, y, z, by simp [hw], by simp [hw], h⟩
