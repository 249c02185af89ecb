/-! GALES TO COME: holdsFor, firstOut, bolts -/
/-- a loop that ends at the first k that is so -/
theorem zl_find {σ ρ : Type} (f : Nat → σ → Nat → Option (ρ ⊕ σ)) (c : Nat → Prop) (I : Nat → σ → Prop) (J : Nat → ρ → Prop) (K : Nat)
    (hs : ∀ n s k, k < K → I k s → ¬ c k → ∃ s', f (n + 1) s k = f n s' (k + 1) ∧ I (k + 1) s')
    (hc : ∀ n s k, k < K → I k s → c k → ∃ r, f (n + 1) s k = some (.inl r) ∧ J k r) :
    ∀ j k m n s, k + j = m → m < K → (∀ i, k ≤ i → i < m → ¬ c i) → c m → I k s → j < n → ∃ r, f n s k = some (.inl r) ∧ J m r := by
  intro j
  induction j with
  | zero =>
    intro k m n s hk hm h1 h2 h3 hn
    cases n with
    | zero => omega
    | succ n =>
      have e : k = m := by omega
      subst e
      exact hc n s k hm h3 h2
  | succ j ih =>
    intro k m n s hk hm h1 h2 h3 hn
    cases n with
    | zero => omega
    | succ n =>
      obtain ⟨s', e, h4⟩ := hs n s k (by omega) h3 (h1 k (by omega) (by omega))
      rw [e]
      exact ih (k + 1) m n s' (by omega) hm (fun i h5 h6 => h1 i (by omega) h6) h2 h4 (by omega)
theorem zl_none {σ ρ : Type} (f : Nat → σ → Nat → Option (ρ ⊕ σ)) (c : Nat → Prop) (I : Nat → σ → Prop) (K : Nat)
    (hs : ∀ n s k, k < K → I k s → ¬ c k → ∃ s', f (n + 1) s k = f n s' (k + 1) ∧ I (k + 1) s')
    (he : ∀ n s, I K s → f (n + 1) s K = some (.inr s)) :
    ∀ j k n s, k + j = K → (∀ i, k ≤ i → i < K → ¬ c i) → I k s → j < n → ∃ s', f n s k = some (.inr s') ∧ I K s' := by
  intro j
  induction j with
  | zero =>
    intro k n s hk h1 h3 hn
    cases n with
    | zero => omega
    | succ n =>
      have e : k = K := by omega
      subst e
      exact ⟨s, he n s h3, h3⟩
  | succ j ih =>
    intro k n s hk h1 h3 hn
    cases n with
    | zero => omega
    | succ n =>
      obtain ⟨s', e, h4⟩ := hs n s k (by omega) h3 (h1 k (by omega) (by omega))
      rw [e]
      exact ih (k + 1) n s' (by omega) (fun i h5 h6 => h1 i (by omega) h6) h4 (by omega)
theorem zl_leastF (c : Nat → Prop) (k K : Nat) : (∃ m, k ≤ m ∧ m < K ∧ c m ∧ ∀ j, k ≤ j → j < m → ¬ c j) ∨ ∀ j, k ≤ j → j < K → ¬ c j := by
  rcases zl_least (fun i => c (k + i)) (K - k) with ⟨i, h1, h2, h3⟩ | h
  · refine Or.inl ⟨k + i, by omega, by omega, h2, fun j h4 h5 => ?_⟩
    have := h3 (j - k) (by omega)
    rw [show k + (j - k) = j by omega] at this
    exact this
  · refine Or.inr (fun j h4 h5 => ?_)
    have := h (j - k) (by omega)
    rw [show k + (j - k) = j by omega] at this
    exact this
/-- behind n GALES -/
def blN (T R : Nat → Nat → Nat) (g : Nat) : Nat → Nat → Nat → Nat
  | 0 => R
  | n + 1 => blS T (blN T R g n) g
theorem zEb.blN {T R : Nat → Nat → Nat} {g : Nat} (hT : zTb T) (h : zEb T R) (hg : g ≤ 9) (n : Nat) : zEb T (blN T R g n) := by
  induction n with
  | zero => exact h
  | succ n ih => exact ih.blS hT hg
theorem blS_2 {T R : Nat → Nat → Nat} {g e : Nat} (he : e < 2 * T 0 1) : blS T R g 2 e = nO T R g e := by rw [blS_e (by omega)]; unfold blR; simp [he]
theorem blS_1 {T R : Nat → Nat → Nat} {g e : Nat} (he : e < 2 * T 0 1) : blS T R g 1 e = nW T R g e := by rw [blS_e (by omega)]; unfold blR; simp [he]
theorem blS_0 {T R : Nat → Nat → Nat} {g e : Nat} : blS T R g 0 e = R 0 e := by rw [blS_e (by omega)]; unfold blR; simp
theorem blN_out {T R : Nat → Nat → Nat} {g e : Nat} (he : e < 2 * T 0 1) (h : R 2 e = 1) (n : Nat) : blN T R g n 2 e = 1 := by
  induction n with
  | zero => exact h
  | succ n ih => unfold blN; rw [blS_2 he]; unfold nO; rw [ih]; simp
theorem blN_same {T R R' : Nat → Nat → Nat} {g e : Nat} (he : e < 2 * T 0 1) (h0 : R 0 e = R' 0 e) (h1 : R 1 e = R' 1 e) (h2 : R 2 e = R' 2 e) (n : Nat) : blN T R g n 0 e = blN T R' g n 0 e ∧ blN T R g n 1 e = blN T R' g n 1 e ∧ blN T R g n 2 e = blN T R' g n 2 e := by
  induction n with
  | zero => exact ⟨h0, h1, h2⟩
  | succ n ih =>
    obtain ⟨i0, i1, i2⟩ := ih
    unfold blN
    rw [blS_0, blS_0, blS_1 he, blS_1 he, blS_2 he, blS_2 he]
    have hw : nW T (blN T R g n) g e = nW T (blN T R' g n) g e := by unfold nW; rw [i0, i1, i2]
    refine ⟨i0, hw, ?_⟩
    unfold nO; rw [hw, i0, i2]
theorem blowL_row {T R : Nat → Nat → Nat} {y : zkM} {r : Nat → Int32} {g : Nat} (hT : zTb T) (hS : zEb T R) (hx : zTx T y.1) (sx : zSx T R r) (hg : g ≤ 9) : ∃ r', fScene_blowL (zk_row y 40 r) (jN g) = some (zk_row y 40 r') ∧ zSx T (blS T R g) r' := by
  obtain ⟨r', e, h⟩ := blowL_spec (y := zk_row y 40 r) hT hS (hx.congr rfl rfl rfl rfl rfl rfl rfl rfl) (by rw [zk_row_on]; exact sx) hg
  rw [zk_row_row] at e
  exact ⟨r', e, h⟩
theorem blows16_row {T R : Nat → Nat → Nat} {z : zkM} {r : Nat → Int32} {g : Nat} (hT : zTb T) (hS : zEb T R) (hm : zTm T z.1) (sm : zEm T R 0 r) (hg : g ≤ 9) : ∃ r', fMd_blowsAll_16 (zk_row z 16 r) (jN 0) (jN g) = some (zk_row z 16 r') ∧ zEm T (blS T R g) 0 r' := by
  obtain ⟨q, e, r', e2, h, -⟩ := blows16 (z := zk_row z 16 r) hT hS (hm.congr rfl rfl rfl rfl rfl rfl) (by rw [zk_row_on]; exact sm) hg
  rw [zk_row_row] at e2
  refine ⟨r', ?_, fun e he => ?_⟩
  · unfold fMd_blowsAll_16; rw [k0, e, e2]; rfl
  · rw [blS_e (by omega), blS_e (by omega), blS_e (by omega)]; exact h e he
theorem cpL {T R : Nat → Nat → Nat} {y : zkM} (hT : zTb T) (sx : zSx T R (y.1 5)) : ∃ r, fScene_copyFromL_5 y = zk_row y 40 r ∧ zSx T R r := by
  have t2 := hT.2.1
  have t3 := hT.2.2.1
  refine ⟨fun i => if i < 42 then y.1 5 i else y.1 40 i, zk_cp_row, ?_, fun c hc => ?_, fun e he => ?_⟩
  · exact sx.1
  · dsimp only; rw [if_pos (by omega)]; exact sx.2.1 c hc
  · dsimp only; rw [if_pos (by omega), if_pos (by omega), if_pos (by omega)]; exact sx.2.2 e he
theorem zKx.r40 {y : zkM} {r : Nat → Int32} : zKx y (zk_row y 40 r) := zKx.row rfl (by omega) (by omega) (by omega)
theorem zKm.r16 {z : zkM} {r : Nat → Int32} : zKm z (zk_row z 16 r) := zKm.row (by omega)
theorem pr_holdsFor {y z : zkM} (h : zRel y z) (a1 : Int32) : ∃ v y' z', sX_holdsFor y a1 v y' ∧ sM_holdsFor z a1 v z' ∧ zRel y' z' := by
  obtain ⟨T, R, hA0⟩ := h.all
  obtain ⟨hT, hx, hm, hS, -⟩ := id hA0
  obtain ⟨y1, z1, e1, e2, kx, km, l1, l2, hA1⟩ := hA0.weigh
  obtain ⟨r, e3, hr, kn⟩ := hA1.ends
  obtain ⟨-, hx1, hm1, -, sx1, sm1, -⟩ := id hA1
  have l9 : ∀ p, p < T 0 1 → ldN T R p < 1000 := fun p _ => ldN_lt hT p
  have hE : zEb T R := hS.2
  obtain ⟨q, e4, hq⟩ := cpL hT sx1
  unfold sX_holdsFor sM_holdsFor fTp_holdsFor fMd_holdsFor fTp_isForce fMd_isForce fForecast_galesToFall
  simp only [within_in, zbF, k0, k1, k2, k3, k4, k5, k6, k7, k8, k9, k10, k12, k16, k17, k20, k29, k30, k31, k32, k36, k40, k41, k42, k48, k57, k59, k60, k64, k98, k99, k100, k112, k128, k200, k255, k256, k378, k420, k999, k1000000]
  rcases in_fr a1 (lo := 1) (hi := 9) (by omega) (by omega) with ⟨hw, g, -, hg, rfl⟩ | ⟨hw, -⟩
  · simp only [hw, Bool.true_eq_false, if_false, e1, e2, e3, e4, Option.bind_some, zk_let, jn9]
    have sx' : ∀ n s k, k < 61 → (∃ r, s = zk_row y1 40 r ∧ zSx T (blN T R g k) r) → ¬ hA T (blN T R g k) (ldN T R) = false → ∃ s', fForecast_galesToFall_L14 (n + 1) s (jN g) (jN k) = fForecast_galesToFall_L14 n s' (jN g) (jN (k + 1)) ∧ ∃ r, s' = zk_row y1 40 r ∧ zSx T (blN T R g (k + 1)) r := by
      rintro n s k hk ⟨r, rfl, hr⟩ hc
      have hc' : hA T (blN T R g k) (ldN T R) = true := by simpa using hc
      obtain ⟨r', e, hr'⟩ := blowL_row hT (hE.blN hT hg k) hx1 hr hg
      refine ⟨_, ?_, r', rfl, hr'⟩
      have ha := allHoldL_spec (y := zk_row y1 40 r) (R := blN T R g k) hT (hx1.congr rfl rfl rfl rfl rfl rfl rfl rfl) (L := ldN T R) l1 l9 (hE.blN hT hg k) (by rw [zk_row_on]; exact hr)
      simp only [fForecast_galesToFall_L14, ha, hc', e]
      simp (disch := omega) only [zk_let, Option.bind_some, cond_true, cond_false, if_true, if_false, zbF, zbT, within_in, jn9, k0, k1, k2, k3, k4, k5, k6, k7, k8, k9, k10, k12, k16, k17, k20, k29, k30, k31, k32, k36, k40, k41, k42, k48, k57, k59, k60, k64, k98, k99, k100, k112, k128, k200, k255, k256, k378, k420, k999, k1000000, jN_add, jN_mul, jN_clamp, jN_inbT, Bool.false_eq_true, Bool.true_eq_false, jN_lt]
      rw [if_neg (by omega)]
    have cx' : ∀ n s k, k < 61 → (∃ r, s = zk_row y1 40 r ∧ zSx T (blN T R g k) r) → hA T (blN T R g k) (ldN T R) = false → ∃ v, fForecast_galesToFall_L14 (n + 1) s (jN g) (jN k) = some (.inl v) ∧ ∃ r, v = (jN k, zk_row y1 40 r) := by
      rintro n s k hk ⟨r, rfl, hr⟩ hc
      refine ⟨_, ?_, r, rfl⟩
      have ha := allHoldL_spec (y := zk_row y1 40 r) (R := blN T R g k) hT (hx1.congr rfl rfl rfl rfl rfl rfl rfl rfl) (L := ldN T R) l1 l9 (hE.blN hT hg k) (by rw [zk_row_on]; exact hr)
      simp only [fForecast_galesToFall_L14, ha, hc]
      simp (disch := omega) only [zk_let, Option.bind_some, cond_true, cond_false, if_true, if_false, zbF, zbT, within_in, jn9, k0, k1, k2, k3, k4, k5, k6, k7, k8, k9, k10, k12, k16, k17, k20, k29, k30, k31, k32, k36, k40, k41, k42, k48, k57, k59, k60, k64, k98, k99, k100, k112, k128, k200, k255, k256, k378, k420, k999, k1000000, jN_add, jN_mul, jN_clamp, jN_inbT, Bool.false_eq_true, Bool.true_eq_false, jN_lt]
      rw [if_neg (by omega)]
    have nx' : ∀ n s, (∃ r, s = zk_row y1 40 r ∧ zSx T (blN T R g 61) r) → fForecast_galesToFall_L14 (n + 1) s (jN g) (jN 61) = some (.inr s) := by
      rintro n s ⟨r, rfl, hr⟩
      simp only [fForecast_galesToFall_L14]
      simp (disch := omega) only [zk_let, Option.bind_some, cond_true, cond_false, if_true, if_false, zbF, zbT, within_in, jn9, k0, k1, k2, k3, k4, k5, k6, k7, k8, k9, k10, k12, k16, k17, k20, k29, k30, k31, k32, k36, k40, k41, k42, k48, k57, k59, k60, k64, k98, k99, k100, k112, k128, k200, k255, k256, k378, k420, k999, k1000000, jN_add, jN_mul, jN_clamp, jN_inbT, Bool.false_eq_true, Bool.true_eq_false, jN_lt]
      rfl
    have sm' : ∀ n s k, k < 61 → (∃ r, s = zk_row z1 16 r ∧ zEm T (blN T R g k) 0 r) → ¬ hA T (blN T R g k) (ldN T R) = false → ∃ s', fMd_holdsFor_L19 (n + 1) s (jN g) (jN k) = fMd_holdsFor_L19 n s' (jN g) (jN (k + 1)) ∧ ∃ r, s' = zk_row z1 16 r ∧ zEm T (blN T R g (k + 1)) 0 r := by
      rintro n s k hk ⟨r, rfl, hr⟩ hc
      have hc' : hA T (blN T R g k) (ldN T R) = true := by simpa using hc
      obtain ⟨r', e, hr'⟩ := blows16_row hT (hE.blN hT hg k) hm1 hr hg
      refine ⟨_, ?_, r', rfl, hr'⟩
      have ha := holdsAllM (z := zk_row z1 16 r) (R := blN T R g k) hT (hm1.congr rfl rfl rfl rfl rfl rfl) (L := ldN T R) l2 l9 (hE.blN hT hg k) (by rw [zk_row_on]; exact hr)
      simp only [fMd_holdsFor_L19, ha, hc', k0, e]
      simp (disch := omega) only [zk_let, Option.bind_some, cond_true, cond_false, if_true, if_false, zbF, zbT, within_in, jn9, k0, k1, k2, k3, k4, k5, k6, k7, k8, k9, k10, k12, k16, k17, k20, k29, k30, k31, k32, k36, k40, k41, k42, k48, k57, k59, k60, k64, k98, k99, k100, k112, k128, k200, k255, k256, k378, k420, k999, k1000000, jN_add, jN_mul, jN_clamp, jN_inbT, Bool.false_eq_true, Bool.true_eq_false, jN_lt]
      rw [if_neg (by omega)]
    have cm' : ∀ n s k, k < 61 → (∃ r, s = zk_row z1 16 r ∧ zEm T (blN T R g k) 0 r) → hA T (blN T R g k) (ldN T R) = false → ∃ v, fMd_holdsFor_L19 (n + 1) s (jN g) (jN k) = some (.inl v) ∧ ∃ r, v = (jN k, zk_row z1 16 r) := by
      rintro n s k hk ⟨r, rfl, hr⟩ hc
      refine ⟨_, ?_, r, rfl⟩
      have ha := holdsAllM (z := zk_row z1 16 r) (R := blN T R g k) hT (hm1.congr rfl rfl rfl rfl rfl rfl) (L := ldN T R) l2 l9 (hE.blN hT hg k) (by rw [zk_row_on]; exact hr)
      simp only [fMd_holdsFor_L19, ha, hc]
      simp (disch := omega) only [zk_let, Option.bind_some, cond_true, cond_false, if_true, if_false, zbF, zbT, within_in, jn9, k0, k1, k2, k3, k4, k5, k6, k7, k8, k9, k10, k12, k16, k17, k20, k29, k30, k31, k32, k36, k40, k41, k42, k48, k57, k59, k60, k64, k98, k99, k100, k112, k128, k200, k255, k256, k378, k420, k999, k1000000, jN_add, jN_mul, jN_clamp, jN_inbT, Bool.false_eq_true, Bool.true_eq_false, jN_lt]
      rw [if_neg (by omega)]
    have nm' : ∀ n s, (∃ r, s = zk_row z1 16 r ∧ zEm T (blN T R g 61) 0 r) → fMd_holdsFor_L19 (n + 1) s (jN g) (jN 61) = some (.inr s) := by
      rintro n s ⟨r, rfl, hr⟩
      simp only [fMd_holdsFor_L19]
      simp (disch := omega) only [zk_let, Option.bind_some, cond_true, cond_false, if_true, if_false, zbF, zbT, within_in, jn9, k0, k1, k2, k3, k4, k5, k6, k7, k8, k9, k10, k12, k16, k17, k20, k29, k30, k31, k32, k36, k40, k41, k42, k48, k57, k59, k60, k64, k98, k99, k100, k112, k128, k200, k255, k256, k378, k420, k999, k1000000, jN_add, jN_mul, jN_clamp, jN_inbT, Bool.false_eq_true, Bool.true_eq_false, jN_lt]
      rfl
    rcases zl_leastF (fun k => hA T (blN T R g k) (ldN T R) = false) 0 61 with ⟨m, -, hm9, hc, hn⟩ | hn
    · obtain ⟨v, f1, r1, rfl⟩ := zl_find (fun n s k => fForecast_galesToFall_L14 n s (jN g) (jN k)) _ _ _ 61 sx' cx' m 0 m 500 (zk_row y1 40 q) (by omega) hm9 hn hc ⟨q, rfl, hq⟩ (by omega)
      obtain ⟨w, f2, r2, rfl⟩ := zl_find (fun n s k => fMd_holdsFor_L19 n s (jN g) (jN k)) _ _ _ 61 sm' cm' m 0 m 500 (zk_row z1 16 r) (by omega) hm9 hn hc ⟨r, rfl, hr⟩ (by omega)
      refine ⟨jN m, zk_row y1 40 r1, zk_row z1 16 r2, ?_, ?_, (hA1.same zKx.r40 zKm.r16).rel⟩
      · rw [f1]; rfl
      · rw [f2]; rfl
    · obtain ⟨s1, f1, r1, rfl, -⟩ := zl_none (fun n s k => fForecast_galesToFall_L14 n s (jN g) (jN k)) _ _ 61 sx' nx' 61 0 500 (zk_row y1 40 q) (by omega) hn ⟨q, rfl, hq⟩ (by omega)
      obtain ⟨s2, f2, r2, rfl, -⟩ := zl_none (fun n s k => fMd_holdsFor_L19 n s (jN g) (jN k)) _ _ 61 sm' nm' 61 0 500 (zk_row z1 16 r) (by omega) hn ⟨r, rfl, hr⟩ (by omega)
      refine ⟨jNo, zk_row y1 40 r1, zk_row z1 16 r2, ?_, ?_, (hA1.same zKx.r40 zKm.r16).rel⟩
      · rw [f1]; rfl
      · rw [f2]; rfl
  · exact ⟨-jN 1, y, z, by simp [hw], by simp [hw], h⟩
