/-! NATURAL NUMBERS as ints; rows of a memory; loops by their states -/
def jN (n : Nat) : Int32 := iI (n : Int)
theorem jN_def (n : Nat) : iI (n : Int) = jN n := rfl
theorem jN_add (a b : Nat) : jN a + jN b = jN (a + b) := by unfold jN; rw [iI_add]; congr 1
theorem jN_mul (a b : Nat) : jN a * jN b = jN (a * b) := by unfold jN; rw [iI_mul]; congr 1
theorem jN_sub {a b : Nat} (h : b ≤ a) : jN a - jN b = jN (a - b) := by unfold jN; rw [iI_sub]; congr 1; omega
theorem jN_le {a b : Nat} (h : a < 2147483648) (h2 : b < 2147483648) : jN a ≤ jN b ↔ a ≤ b := by unfold jN; rw [iI_le (by omega) (by omega) (by omega) (by omega)]; omega
theorem jN_lt {a b : Nat} (h : a < 2147483648) (h2 : b < 2147483648) : jN a < jN b ↔ a < b := by unfold jN; rw [iI_lt (by omega) (by omega) (by omega) (by omega)]; omega
theorem jN_eq {a b : Nat} (h : a < 2147483648) (h2 : b < 2147483648) : jN a = jN b ↔ a = b := by unfold jN; rw [iI_eq (by omega) (by omega) (by omega) (by omega)]; omega
theorem jN_div {a b : Nat} (h : a < 2147483648) (h2 : b < 2147483648) : jN a / jN b = jN (a / b) := by
  unfold jN; rw [iI_div (by omega) (by omega) (by omega) (by omega)]; congr 1
theorem jN_clamp {n : Nat} (h : n < 2147483648) : (jN n).toNatClampNeg = n := iI_clampN h
theorem jN_inb {n N : Nat} (h : n < 2147483648) : zk_inb (jN n) N = decide (n < N) := by
  unfold jN; rw [zk_inb_iI (by omega) (by omega)]; apply decide_eq_decide.mpr; omega
theorem jN_inbT {n N : Nat} (h : n < N) (hN : N < 2147483648) : zk_inb (jN n) N = true := zk_inbN h hN
/-- none, as the programs say it -/
def jNo : Int32 := iI (-9)
theorem jNo_def : (-9 : Int32) = jNo := by decide
theorem iI_no : iI (-9) = jNo := rfl
theorem jN_no {n : Nat} (h : n < 2147483648) : ¬ jN n = jNo := by unfold jN jNo; rw [iI_eq (by omega) (by omega) (by omega) (by omega)]; omega
theorem jNo_n {n : Nat} (h : n < 2147483648) : ¬ jNo = jN n := by unfold jN jNo; rw [iI_eq (by omega) (by omega) (by omega) (by omega)]; omega
theorem jNo_inb {N : Nat} : zk_inb jNo N = false := by unfold jNo; rw [zk_inb_iI (by omega) (by omega)]; simp
theorem k0 : (0 : Int32) = jN 0 := by decide
theorem k1 : (1 : Int32) = jN 1 := by decide
theorem k2 : (2 : Int32) = jN 2 := by decide
theorem k3 : (3 : Int32) = jN 3 := by decide
theorem k4 : (4 : Int32) = jN 4 := by decide
theorem k5 : (5 : Int32) = jN 5 := by decide
theorem k6 : (6 : Int32) = jN 6 := by decide
theorem k7 : (7 : Int32) = jN 7 := by decide
theorem k8 : (8 : Int32) = jN 8 := by decide
theorem k9 : (9 : Int32) = jN 9 := by decide
theorem k10 : (10 : Int32) = jN 10 := by decide
theorem k12 : (12 : Int32) = jN 12 := by decide
theorem k16 : (16 : Int32) = jN 16 := by decide
theorem k17 : (17 : Int32) = jN 17 := by decide
theorem k20 : (20 : Int32) = jN 20 := by decide
theorem k29 : (29 : Int32) = jN 29 := by decide
theorem k30 : (30 : Int32) = jN 30 := by decide
theorem k31 : (31 : Int32) = jN 31 := by decide
theorem k32 : (32 : Int32) = jN 32 := by decide
theorem k36 : (36 : Int32) = jN 36 := by decide
theorem k40 : (40 : Int32) = jN 40 := by decide
theorem k41 : (41 : Int32) = jN 41 := by decide
theorem k42 : (42 : Int32) = jN 42 := by decide
theorem k48 : (48 : Int32) = jN 48 := by decide
theorem k57 : (57 : Int32) = jN 57 := by decide
theorem k59 : (59 : Int32) = jN 59 := by decide
theorem k60 : (60 : Int32) = jN 60 := by decide
theorem k64 : (64 : Int32) = jN 64 := by decide
theorem k98 : (98 : Int32) = jN 98 := by decide
theorem k99 : (99 : Int32) = jN 99 := by decide
theorem k100 : (100 : Int32) = jN 100 := by decide
theorem k112 : (112 : Int32) = jN 112 := by decide
theorem k128 : (128 : Int32) = jN 128 := by decide
theorem k200 : (200 : Int32) = jN 200 := by decide
theorem k255 : (255 : Int32) = jN 255 := by decide
theorem k256 : (256 : Int32) = jN 256 := by decide
theorem k378 : (378 : Int32) = jN 378 := by decide
theorem k420 : (420 : Int32) = jN 420 := by decide
theorem k999 : (999 : Int32) = jN 999 := by decide
theorem k1000000 : (1000000 : Int32) = jN 1000000 := by decide
theorem in_jN {a lo hi : Nat} (h1 : a < 2147483648) (h2 : lo < 2147483648) (h3 : hi < 2147483648) : fMd_in (jN a) (jN lo) (jN hi) = decide (lo ≤ a ∧ a ≤ hi) := by
  unfold fMd_in
  simp only [jN_lt h1 h2, jN_lt h3 h1]
  by_cases c1 : a < lo
  · rw [if_pos c1, decide_eq_false]; omega
  · rw [if_neg c1]
    by_cases c2 : hi < a
    · rw [if_pos c2, decide_eq_false]; omega
    · rw [if_neg c2, decide_eq_true]; omega
theorem in_lt (a : Int32) {K : Nat} (hK : K ≤ 1000) : (fMd_in a (jN 0) (jN K - jN 1) = true ∧ ∃ n : Nat, n < K ∧ a = jN n) ∨ (fMd_in a (jN 0) (jN K - jN 1) = false ∧ ∀ n : Nat, n < K → a ≠ jN n) := by
  have := in_cnt a hK
  rw [k0, k1] at this
  exact this
theorem in_fr (a : Int32) {lo hi : Nat} (hK : hi ≤ 1000) (hl : lo ≤ 1000) : (fMd_in a (jN lo) (jN hi) = true ∧ ∃ n : Nat, lo ≤ n ∧ n ≤ hi ∧ a = jN n) ∨ (fMd_in a (jN lo) (jN hi) = false ∧ ∀ n : Nat, lo ≤ n → n ≤ hi → a ≠ jN n) := by
  rcases in_spec a (lo := (lo : Int)) (hi := (hi : Int)) (by omega) (by omega) (by omega) (by omega) with ⟨h, n, h1, h2, e⟩ | ⟨h, hn⟩
  · refine Or.inl ⟨h, n.toNat, by omega, by omega, ?_⟩
    rw [e]; unfold jN; congr 1; omega
  · exact Or.inr ⟨h, fun n h1 hn' => hn n (by omega) (by omega)⟩
/-- one row of a memory put anew -/
def zk_row (mem : zkM) (c : Nat) (r : Nat → Int32) : zkM := (fun a b => if a = c then r b else mem.1 a b, mem.2)
theorem zk_row_on {mem : zkM} {c : Nat} {r : Nat → Int32} : (zk_row mem c r).1 c = r := by funext b; simp [zk_row]
theorem zk_row_off {mem : zkM} {c a : Nat} {r : Nat → Int32} (h : a ≠ c) : (zk_row mem c r).1 a = mem.1 a := by funext b; simp [zk_row, h]
theorem zk_row_2 {mem : zkM} {c : Nat} {r : Nat → Int32} : (zk_row mem c r).2 = mem.2 := rfl
theorem zk_row_self {mem : zkM} {c : Nat} : zk_row mem c (mem.1 c) = mem := by
  apply Prod.ext
  · funext a b; simp only [zk_row]; by_cases h : a = c <;> simp [h]
  · rfl
theorem zk_row_row {mem : zkM} {c : Nat} {r r2 : Nat → Int32} : zk_row (zk_row mem c r) c r2 = zk_row mem c r2 := by
  apply Prod.ext
  · funext a b; simp only [zk_row]; by_cases h : a = c <;> simp [h]
  · rfl
theorem zk_row_comm {mem : zkM} {c a : Nat} {r r2 : Nat → Int32} (h : a ≠ c) : zk_row (zk_row mem c r) a r2 = zk_row (zk_row mem a r2) c r := by
  apply Prod.ext
  · funext x b; simp only [zk_row]; by_cases h1 : x = a <;> by_cases h2 : x = c <;> simp [h1, h2] <;> omega
  · rfl
theorem zk_u_row {mem : zkM} {c i : Nat} {x : Int32} : zk_u mem c i x = zk_row mem c (upd (mem.1 c) i x) := by
  apply Prod.ext
  · funext a b; simp only [zk_row, zk_u, upd]; by_cases h : a = c <;> simp [h]
  · rfl
theorem zk_cp_row {mem : zkM} {k0 k1 n : Nat} : zk_cp mem k0 k1 0 0 n = zk_row mem k1 (fun i => if i < n then mem.1 k0 i else mem.1 k1 i) := by
  apply Prod.ext
  · funext a b; simp only [zk_row, zk_cp]; by_cases h : a = k1 <;> simp [h]
  · rfl
theorem upd_same {f : Nat → Int32} {i : Nat} {x : Int32} : upd f i x i = x := by simp [upd]
theorem upd_ne {f : Nat → Int32} {i j : Nat} {x : Int32} (h : j ≠ i) : upd f i x j = f j := by simp [upd, h]
theorem zKx.row {y : zkM} {k : Nat} {r : Nat → Int32} (h : zRx k = false) (h1 : k ≠ 1) (h9 : k ≠ 9) (h26 : k ≠ 26) : zKx y (zk_row y k r) :=
  ⟨fun j hj => zk_row_off (fun e => by rw [e, h] at hj; cases hj), by rw [zk_row_off (fun e => h1 e.symm)], by rw [zk_row_off (fun e => h9 e.symm)], by rw [zk_row_off (fun e => h9 e.symm)], by rw [zk_row_off (fun e => h26 e.symm)], rfl⟩
theorem zKm.row {y : zkM} {k : Nat} {r : Nat → Int32} (h : 10 ≤ k) : zKm y (zk_row y k r) :=
  ⟨fun j hj => zk_row_off (fun e => by rw [e] at hj; unfold zRm at hj; rw [Bool.and_eq_true] at hj; have := Nat.le_of_ble_eq_true hj.2; omega), by rw [zk_row_off (by omega)], by rw [zk_row_off (by omega)], by rw [zk_row_off (by omega)], by rw [zk_row_off (by omega)], by rw [zk_row_off (by omega)], by rw [zk_row_off (by omega)], rfl⟩
/-- a loop by its states -/
theorem zl_eq {σ ρ : Type} (f : Nat → σ → Option ρ) (S : Nat → σ) (K : Nat) (r : ρ) (hs : ∀ n k, k < K → f (n + 1) (S k) = f n (S (k + 1))) (he : ∀ n, f (n + 1) (S K) = some r) (n : Nat) (hn : K < n) : f n (S 0) = some r := by
  have key : ∀ j k n, k + j = K → j < n → f n (S k) = some r := by
    intro j
    induction j with
    | zero =>
      intro k n hk hn
      cases n with
      | zero => omega
      | succ n => rw [show k = K by omega]; exact he n
    | succ j ih =>
      intro k n hk hn
      cases n with
      | zero => omega
      | succ n => rw [hs n k (by omega)]; exact ih (k + 1) n (by omega) (by omega)
  exact key K 0 n (by omega) hn
/-- the least of those below K that are so, or none is -/
theorem zl_least (c : Nat → Prop) (K : Nat) : (∃ k, k < K ∧ c k ∧ ∀ j, j < k → ¬ c j) ∨ ∀ j, j < K → ¬ c j := by
  induction K with
  | zero => exact Or.inr (fun j h => by omega)
  | succ K ih =>
    rcases ih with ⟨k, h1, h2, h3⟩ | h
    · exact Or.inl ⟨k, by omega, h2, h3⟩
    · by_cases hc : c K
      · exact Or.inl ⟨K, by omega, hc, h⟩
      · refine Or.inr (fun j hj => ?_)
        by_cases e : j = K
        · rw [e]; exact hc
        · exact h j (by omega)
theorem zbF (b : Bool) : (zk_b b = jN 0) = (b = false) := by cases b <;> decide
theorem zbT (b : Bool) : (zk_b b = jN 1) = (b = true) := by cases b <;> decide
theorem jn9 : -jN 9 = jNo := by decide
theorem zk_u_ne {mem : zkM} {k i b : Nat} {x : Int32} (h : b ≠ i) : (zk_u mem k i x).1 k b = mem.1 k b := by simp [zk_u, h]
theorem zk_u_at {mem : zkM} {k i : Nat} {x : Int32} : (zk_u mem k i x).1 k i = x := by simp [zk_u]
