/-! NUMBERS: ints as Int32.ofInt of an Int: a homomorphism; comparisons where both lie in range -/
def iI (n : Int) : Int32 := Int32.ofInt n
theorem iI_add (a b : Int) : iI a + iI b = iI (a + b) := (Int32.ofInt_add a b).symm
theorem iI_sub (a b : Int) : iI a - iI b = iI (a - b) := (Int32.ofInt_sub a b).symm
theorem iI_mul (a b : Int) : iI a * iI b = iI (a * b) := (Int32.ofInt_mul a b).symm
theorem iI_neg (a : Int) : -iI a = iI (-a) := (Int32.ofInt_neg a).symm
theorem iI_of (x : Int32) : x = iI x.toInt := (Int32.ofInt_toInt x).symm
theorem iI_toInt {n : Int} (h1 : -2147483648 ≤ n) (h2 : n < 2147483648) : (iI n).toInt = n := Int32.toInt_ofInt_of_le h1 h2
theorem iI_le {a b : Int} (h1 : -2147483648 ≤ a) (h2 : a < 2147483648) (h3 : -2147483648 ≤ b) (h4 : b < 2147483648) : iI a ≤ iI b ↔ a ≤ b := by
  rw [Int32.le_iff_toInt_le, iI_toInt h1 h2, iI_toInt h3 h4]
theorem iI_lt {a b : Int} (h1 : -2147483648 ≤ a) (h2 : a < 2147483648) (h3 : -2147483648 ≤ b) (h4 : b < 2147483648) : iI a < iI b ↔ a < b := by
  rw [Int32.lt_iff_toInt_lt, iI_toInt h1 h2, iI_toInt h3 h4]
theorem iI_eq {a b : Int} (h1 : -2147483648 ≤ a) (h2 : a < 2147483648) (h3 : -2147483648 ≤ b) (h4 : b < 2147483648) : iI a = iI b ↔ a = b := by
  rw [← Int32.toInt_inj, iI_toInt h1 h2, iI_toInt h3 h4]
theorem iI_clamp {n : Int} (h1 : -2147483648 ≤ n) (h2 : n < 2147483648) : (iI n).toNatClampNeg = n.toNat := by
  show (iI n).toInt.toNat = _
  rw [iI_toInt h1 h2]
theorem iI_clampN {n : Nat} (h2 : n < 2147483648) : (iI (n : Int)).toNatClampNeg = n := by rw [iI_clamp (by omega) (by omega)]; omega
theorem iI_div {a b : Int} (h1 : -2147483648 < a) (h2 : a < 2147483648) (h3 : -2147483648 ≤ b) (h4 : b < 2147483648) : iI a / iI b = iI (a.tdiv b) := by
  apply Int32.toInt_inj.mp
  rw [Int32.toInt_div_of_ne_left, iI_toInt (by omega) h2, iI_toInt h3 h4, iI_toInt]
  · have := Int.natAbs_tdiv_le_natAbs a b
    omega
  · have := Int.natAbs_tdiv_le_natAbs a b
    omega
  · intro e
    have := congrArg Int32.toInt e
    rw [iI_toInt (by omega) h2] at this
    have h9 : Int32.minValue.toInt = -2147483648 := by decide
    omega
theorem zk_inb_iI {n : Int} {N : Nat} (h1 : -2147483648 ≤ n) (h2 : n < 2147483648) : zk_inb (iI n) N = decide (0 ≤ n ∧ n < N) := by
  unfold zk_inb
  rw [iI_clamp h1 h2]
  have h0 : (0 : Int32) = iI 0 := by decide
  rw [h0, (decide_eq_decide.mpr (iI_le (by omega) (by omega) h1 h2) : decide (iI 0 ≤ iI n) = decide (0 ≤ n))]
  by_cases ha : 0 ≤ n
  · simp only [ha, decide_true, Bool.true_and, true_and]
    apply decide_eq_decide.mpr
    omega
  · simp [ha]
theorem zk_inbN {n N : Nat} (h : n < N) (hN : N < 2147483648) : zk_inb (iI (n : Int)) N = true := by
  rw [zk_inb_iI (by omega) (by omega)]
  simp only [decide_eq_true_eq]
  omega
theorem i0 : (0 : Int32) = iI 0 := by decide
theorem i1 : (1 : Int32) = iI 1 := by decide
theorem i2 : (2 : Int32) = iI 2 := by decide
theorem i3 : (3 : Int32) = iI 3 := by decide
theorem i4 : (4 : Int32) = iI 4 := by decide
theorem i5 : (5 : Int32) = iI 5 := by decide
theorem i6 : (6 : Int32) = iI 6 := by decide
theorem i7 : (7 : Int32) = iI 7 := by decide
theorem i9 : (9 : Int32) = iI 9 := by decide
theorem i10 : (10 : Int32) = iI 10 := by decide
theorem i12 : (12 : Int32) = iI 12 := by decide
theorem i17 : (17 : Int32) = iI 17 := by decide
theorem i20 : (20 : Int32) = iI 20 := by decide
theorem i29 : (29 : Int32) = iI 29 := by decide
theorem i30 : (30 : Int32) = iI 30 := by decide
theorem i32' : (32 : Int32) = iI 32 := by decide
theorem i36 : (36 : Int32) = iI 36 := by decide
theorem i40 : (40 : Int32) = iI 40 := by decide
theorem i41 : (41 : Int32) = iI 41 := by decide
theorem i42 : (42 : Int32) = iI 42 := by decide
theorem i48 : (48 : Int32) = iI 48 := by decide
theorem i57 : (57 : Int32) = iI 57 := by decide
theorem i60 : (60 : Int32) = iI 60 := by decide
theorem i200 : (200 : Int32) = iI 200 := by decide
theorem i255 : (255 : Int32) = iI 255 := by decide
theorem i378 : (378 : Int32) = iI 378 := by decide
theorem i999 : (999 : Int32) = iI 999 := by decide
theorem im1 : (-1 : Int32) = iI (-1) := by decide
theorem im2 : (-2 : Int32) = iI (-2) := by decide
theorem im3 : (-3 : Int32) = iI (-3) := by decide
theorem im5 : (-5 : Int32) = iI (-5) := by decide
theorem im9 : (-9 : Int32) = iI (-9) := by decide
theorem im10 : (-10 : Int32) = iI (-10) := by decide
/-- a loop: an invariant by the number of turns done; each turn ends it well or leads to the next -/
theorem zl_up {σ ρ : Type} (f : Nat → σ → Option ρ) (I : Nat → σ → Prop) (K : Nat) (P : ρ → Prop)
    (hs : ∀ n k s, k ≤ K → I k s → (∃ r, f (n + 1) s = some r ∧ P r) ∨ (k < K ∧ ∃ s', f (n + 1) s = f n s' ∧ I (k + 1) s')) :
    ∀ (j k n : Nat) (s : σ), k + j = K → I k s → j < n → ∃ r, f n s = some r ∧ P r := by
  intro j
  induction j with
  | zero =>
    intro k n s hk hI hn
    cases n with
    | zero => omega
    | succ n =>
      rcases hs n k s (by omega) hI with h | ⟨h, _⟩
      · exact h
      · omega
  | succ j ih =>
    intro k n s hk hI hn
    cases n with
    | zero => omega
    | succ n =>
      rcases hs n k s (by omega) hI with h | ⟨h, s', e, hI'⟩
      · exact h
      · rw [e]
        exact ih (k + 1) n s' (by omega) hI' (by omega)
theorem zl_loop {σ ρ : Type} (f : Nat → σ → Option ρ) (I : Nat → σ → Prop) (K : Nat) (P : ρ → Prop)
    (hs : ∀ n k s, k ≤ K → I k s → (∃ r, f (n + 1) s = some r ∧ P r) ∨ (k < K ∧ ∃ s', f (n + 1) s = f n s' ∧ I (k + 1) s'))
    (n : Nat) (s : σ) (hI : I 0 s) (hn : K < n) : ∃ r, f n s = some r ∧ P r := zl_up f I K P hs K 0 n s (by omega) hI hn
