/-! SETS as bits -/
theorem jN_bv (n : Nat) : (jN n).toBitVec = BitVec.ofNat 32 n := by unfold jN iI; rw [Int32.ofInt_eq_ofNat]; rfl
theorem jN_or (a b : Nat) : jN a ||| jN b = jN (a ||| b) := by
  apply Int32.toBitVec_inj.mp; rw [Int32.toBitVec_or, jN_bv, jN_bv, jN_bv, BitVec.ofNat_or]
theorem jN_and (a b : Nat) : jN a &&& jN b = jN (a &&& b) := by
  apply Int32.toBitVec_inj.mp; rw [Int32.toBitVec_and, jN_bv, jN_bv, jN_bv, BitVec.ofNat_and]
theorem sh1_all : ∀ k, k < 31 → jN 1 <<< (jN k &&& jN 31) = jN (2 ^ k) := by decide +kernel
theorem sh1 {k : Nat} (h : k < 31) : jN 1 <<< (jN k &&& jN 31) = jN (2 ^ k) := sh1_all k h
/-- the set of the k below K that f holds of -/
def bs (f : Nat → Bool) : Nat → Nat
  | 0 => 0
  | k + 1 => bs f k ||| (if f k = true then 2 ^ k else 0)
theorem bs_bit (f : Nat → Bool) (K i : Nat) : (bs f K).testBit i = (decide (i < K) && f i) := by
  induction K with
  | zero => simp [bs]
  | succ K ih =>
    simp only [bs, Nat.testBit_or, ih]
    by_cases h : f K = true
    · rw [if_pos h, Nat.testBit_two_pow]
      by_cases e : K = i
      · subst e; simp [h]
      · have : decide (i < K + 1) = decide (i < K) := decide_eq_decide.mpr (by omega)
        simp [e, this]
    · rw [if_neg h]
      by_cases e : i = K
      · subst e; simp [h]
      · have : decide (i < K + 1) = decide (i < K) := decide_eq_decide.mpr (by omega)
        simp [this]
theorem bs_lt (f : Nat → Bool) (K : Nat) : bs f K < 2 ^ K := Nat.lt_pow_two_of_testBit _ (fun i hi => by rw [bs_bit]; simp; omega)
theorem bs_congr {f g : Nat → Bool} {K : Nat} (h : ∀ k, k < K → f k = g k) : bs f K = bs g K := by
  induction K with
  | zero => rfl
  | succ K ih => simp only [bs]; rw [ih (fun k hk => h k (by omega)), h K (by omega)]
/-- one more END looked at -/
theorem bs_in {f : Nat → Bool} {k : Nat} (hk : k < 31) (h : f k = true) : jN (bs f k) ||| (jN 1 <<< (jN k &&& jN 31)) = jN (bs f (k + 1)) := by
  rw [sh1 hk, jN_or]; simp only [bs, h, if_true]
theorem bs_out {f : Nat → Bool} {k : Nat} (h : f k = false) : bs f (k + 1) = bs f k := by
  simp only [bs, h]; simp
theorem bs_andnot {f g : Nat → Bool} {K : Nat} (hK : K ≤ 31) : jN (bs f K) &&& (jN (bs g K) ^^^ -jN 1) = jN (bs (fun k => f k && !g k) K) := by
  apply Int32.toBitVec_inj.mp
  rw [Int32.toBitVec_and, Int32.toBitVec_xor, show (-jN 1).toBitVec = BitVec.allOnes 32 by decide, jN_bv, jN_bv, jN_bv]
  apply BitVec.eq_of_getLsbD_eq
  intro i hi
  simp only [BitVec.getLsbD_and, BitVec.getLsbD_xor, BitVec.getLsbD_ofNat, BitVec.getLsbD_allOnes, bs_bit, hi]
  by_cases c : i < K
  · simp [c]
  · simp [c]
/-- how many -/
def cnt (f : Nat → Bool) : Nat → Nat
  | 0 => 0
  | k + 1 => cnt f k + (if f k = true then 1 else 0)
theorem cnt_le (f : Nat → Bool) (K : Nat) : cnt f K ≤ K := by
  induction K with
  | zero => simp [cnt]
  | succ K ih => simp only [cnt]; split <;> omega
theorem cnt_congr {f g : Nat → Bool} {K : Nat} (h : ∀ k, k < K → f k = g k) : cnt f K = cnt g K := by
  induction K with
  | zero => rfl
  | succ K ih => simp only [cnt]; rw [ih (fun k hk => h k (by omega)), h K (by omega)]
theorem cnt_more {f : Nat → Bool} {K L : Nat} (h : ∀ k, K ≤ k → f k = false) (hl : K ≤ L) : cnt f L = cnt f K := by
  induction L with
  | zero => rw [show K = 0 by omega]
  | succ L ih =>
    by_cases c : K = L + 1
    · rw [c]
    · simp only [cnt]; rw [ih (by omega), h L (by omega)]; simp
theorem cnt_bs (f : Nat → Bool) {K L : Nat} (hl : K ≤ L) : cnt (fun i => (bs f K).testBit i) L = cnt f K := by
  rw [cnt_more (K := K) (fun k hk => by rw [bs_bit]; simp; omega) hl]
  exact cnt_congr (fun k hk => by rw [bs_bit]; simp [hk])
theorem bitCount_all : ∀ a, a < 64 → ∀ b, b < 64 → fJint_bitCount (jN (64 * a + b)) = jN (cnt (fun i => (64 * a + b).testBit i) 12) := by decide +kernel
theorem bitCount_jN {n : Nat} (h : n < 4096) : fJint_bitCount (jN n) = jN (cnt (fun i => n.testBit i) 12) := by
  have := bitCount_all (n / 64) (by omega) (n % 64) (by omega)
  rw [show 64 * (n / 64) + n % 64 = n by omega] at this
  exact this
theorem bitCount_bs {f : Nat → Bool} {K : Nat} (h : K ≤ 12) : fJint_bitCount (jN (bs f K)) = jN (cnt f K) := by
  have h1 := bs_lt f K
  have h2 : 2 ^ K ≤ 2 ^ 12 := Nat.pow_le_pow_right (by omega) h
  rw [bitCount_jN (by omega), cnt_bs f h]
