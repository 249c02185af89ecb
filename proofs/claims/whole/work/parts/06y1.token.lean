/-! TOKENS: what the class and the model read next -/
def isD (c : Nat) : Bool := decide (48 ≤ c ∧ c ≤ 57)
def isM (c : Nat) : Bool := decide (c = 98 ∨ c = 112 ∨ c = 99 ∨ c = 59)
def zLt (L : Nat → Nat) (N : Nat) (r : Nat → Int32) : Prop := N ≤ 200 ∧ ∀ i, i < N → r i = jN (L i) ∧ L i ≤ 255
theorem zk_u_self {mem : zkM} {k i : Nat} {x : Int32} (h : mem.1 k i = x) : zk_u mem k i x = mem := by
  rw [zk_u_row, upd_self h, zk_row_self]
def tkN (L : Nat → Nat) (s e : Nat) : Nat := if e - s = 1 ∨ (e - s = 2 ∧ L s ≠ 48) then 1 else 2
def nv (L : Nat → Nat) (s e : Nat) : Nat := if e - s = 1 then L s - 48 else 10 * (L s - 48) + (L (s + 1) - 48)
def Tk (L : Nat → Nat) (N p s e tk v : Nat) : Prop := p ≤ s ∧ s ≤ N ∧ (∀ i, p ≤ i → i < s → L i = 32) ∧ ((s = N ∧ tk = 0 ∧ e = s) ∨ (s < N ∧ L s ≠ 32 ∧ isD (L s) = false ∧ e = s + 1 ∧ tk = (if isM (L s) = true then L s else 2)) ∨ (s < N ∧ isD (L s) = true ∧ s < e ∧ e ≤ N ∧ (∀ i, s ≤ i → i < e → isD (L i) = true) ∧ (e = N ∨ isD (L e) = false) ∧ tk = tkN L s e ∧ v = nv L s e))
theorem Tk_ex {L : Nat → Nat} {N p : Nat} (h : p ≤ N) : ∃ s e tk v, Tk L N p s e tk v := by
  rcases zl_leastF (fun i => i = N ∨ L i ≠ 32) p (N + 1) with ⟨s, h1, h2, h3, h4⟩ | hn
  · have hsp : ∀ i, p ≤ i → i < s → L i = 32 := by
      intro i hi1 hi2
      have := h4 i hi1 hi2
      by_cases c : L i = 32
      · exact c
      · exact absurd (Or.inr c) this
    by_cases cN : s = N
    · exact ⟨s, s, 0, 0, h1, by omega, hsp, Or.inl ⟨cN, rfl, rfl⟩⟩
    · have hne : L s ≠ 32 := by
        rcases h3 with h3 | h3
        · exact absurd h3 cN
        · exact h3
      by_cases cd : isD (L s) = true
      · rcases zl_leastF (fun i => i = N ∨ isD (L i) = false) s (N + 1) with ⟨e, g1, g2, g3, g4⟩ | hn
        · have hdg : ∀ i, s ≤ i → i < e → isD (L i) = true := by
            intro i hi1 hi2
            have := g4 i hi1 hi2
            cases ee : isD (L i) with
            | true => rfl
            | false => exact absurd (Or.inr ee) this
          have hse : s ≠ e := by
            intro e9
            subst e9
            rcases g3 with g3 | g3
            · exact cN g3
            · rw [cd] at g3; cases g3
          exact ⟨s, e, tkN L s e, nv L s e, h1, by omega, hsp, Or.inr (Or.inr ⟨by omega, cd, by omega, by omega, hdg, g3, rfl, rfl⟩)⟩
        · exact absurd (Or.inl rfl) (hn N (by omega) (by omega))
      · exact ⟨s, s + 1, _, 0, h1, by omega, hsp, Or.inr (Or.inl ⟨by omega, hne, by simpa using cd, rfl, rfl⟩)⟩
  · exact absurd (Or.inl rfl) (hn N (by omega) (by omega))
theorem isD_in {c : Nat} (h : c ≤ 255) : fMd_in (jN c) (jN 48) (jN 57) = isD c := in_jN (by omega) (by omega) (by omega)
theorem skipX {mem : zkM} {r : Nat → Int32} {L : Nat → Nat} {N p s : Nat} (h1 : r 1 = jN N) (h2 : r 2 = jN p) (hL : zLt L N (mem.1 2)) (hps : p ≤ s) (hsN : s ≤ N) (hsp : ∀ i, p ≤ i → i < s → L i = 32) (hend : s = N ∨ L s ≠ 32) : fScript_step_L0 500 (zk_row mem 1 r) = some (zk_row mem 1 (upd r 2 (jN s))) := by
  have hN := hL.1
  have := zl_eq (fun n (q : Nat) => fScript_step_L0 n (zk_row mem 1 (upd r 2 (jN q)))) (fun k => p + k) (s - p) (zk_row mem 1 (upd r 2 (jN s))) ?_ ?_ 500 (by omega)
  · rw [Nat.add_zero, upd_self h2] at this
    exact this
  · intro n k hk
    obtain ⟨l1, l2⟩ := hL.2 (p + k) (by omega)
    have hl := hsp (p + k) (by omega) (by omega)
    simp only [fScript_step_L0, zk_row_on, zk_row_off (show (2 : Nat) ≠ 1 by omega), upd_same, upd_ne (show (1 : Nat) ≠ 2 by omega), h1]
    simp (disch := omega) only [zk_let, Option.bind_some, cond_true, cond_false, if_true, if_false, zbF, zbT, within_in, jn9, k0, k1, k2, k3, k4, k5, k6, k7, k8, k9, k10, k12, k16, k17, k20, k29, k30, k31, k32, k36, k40, k41, k42, k48, k57, k59, k60, k64, k98, k99, k100, k112, k128, k200, k255, k256, k378, k420, k999, k1000000, jN_add, jN_mul, jN_clamp, jN_inbT, Bool.false_eq_true, Bool.true_eq_false, jN_le, l1, hl, zk_u_row, zk_row_row, zk_row_on]
    rw [if_neg (by omega)]
    have e : upd (upd r 2 (jN (p + k))) 2 (jN (p + k + 1)) = upd r 2 (jN (p + (k + 1))) := by
      funext j
      by_cases c : j = 2
      · rw [c, upd_same, upd_same]; rfl
      · rw [upd_ne c, upd_ne c, upd_ne c]
    rw [e]
  · intro n
    rw [show p + (s - p) = s by omega]
    simp only [fScript_step_L0, zk_row_on, zk_row_off (show (2 : Nat) ≠ 1 by omega), upd_same, upd_ne (show (1 : Nat) ≠ 2 by omega), h1]
    by_cases c : s = N
    · simp (disch := omega) only [zk_let, Option.bind_some, cond_true, cond_false, if_true, if_false, zbF, zbT, within_in, jn9, k0, k1, k2, k3, k4, k5, k6, k7, k8, k9, k10, k12, k16, k17, k20, k29, k30, k31, k32, k36, k40, k41, k42, k48, k57, k59, k60, k64, k98, k99, k100, k112, k128, k200, k255, k256, k378, k420, k999, k1000000, jN_add, jN_mul, jN_clamp, jN_inbT, Bool.false_eq_true, Bool.true_eq_false, jN_le]
      rw [if_pos (by omega)]
    · obtain ⟨l1, l2⟩ := hL.2 s (by omega)
      have hne : ¬ L s = 32 := by
        rcases hend with h | h
        · exact absurd h c
        · exact h
      simp (disch := omega) only [zk_let, Option.bind_some, cond_true, cond_false, if_true, if_false, zbF, zbT, within_in, jn9, k0, k1, k2, k3, k4, k5, k6, k7, k8, k9, k10, k12, k16, k17, k20, k29, k30, k31, k32, k36, k40, k41, k42, k48, k57, k59, k60, k64, k98, k99, k100, k112, k128, k200, k255, k256, k378, k420, k999, k1000000, jN_add, jN_mul, jN_clamp, jN_inbT, Bool.false_eq_true, Bool.true_eq_false, jN_le, l1, jN_eq]
      rw [if_neg (by omega), if_neg hne]
theorem letIn {zem : zkM} {t : Nat → Int32} {L : Nat → Nat} {N q : Nat} (h : t 15 = jN N) (hL : zLt L N (zem.1 9)) (hq : q < N) : fMd_letterAt (zk_row zem 0 t) (jN q) = some (jN (L q)) := by
  have hN := hL.1
  unfold fMd_letterAt
  simp only [zk_row_on, h, zk_row_off (show (9 : Nat) ≠ 0 by omega)]
  simp (disch := omega) only [zk_let, Option.bind_some, cond_true, cond_false, if_true, if_false, zbF, zbT, within_in, jn9, k0, k1, k2, k3, k4, k5, k6, k7, k8, k9, k10, k12, k16, k17, k20, k29, k30, k31, k32, k36, k40, k41, k42, k48, k57, k59, k60, k64, k98, k99, k100, k112, k128, k200, k255, k256, k378, k420, k999, k1000000, jN_add, jN_mul, jN_clamp, jN_inbT, Bool.false_eq_true, Bool.true_eq_false, jN_le, (hL.2 q hq).1]
  rw [if_neg (by omega)]
theorem letOut {zem : zkM} {t : Nat → Int32} {N q : Nat} (h : t 15 = jN N) (hN : N ≤ 200) (hq : N ≤ q) (hq2 : q < 1000) : fMd_letterAt (zk_row zem 0 t) (jN q) = some (-jN 1) := by
  unfold fMd_letterAt
  simp only [zk_row_on, h, k1]
  rw [if_pos (by rw [jN_le (by omega) (by omega)]; exact hq)]
theorem upd_upd {f : Nat → Int32} {i : Nat} {x x' : Int32} : upd (upd f i x) i x' = upd f i x' := by
  funext j
  by_cases c : j = i
  · rw [c, upd_same, upd_same]
  · rw [upd_ne c, upd_ne c, upd_ne c]
theorem skipM {zem : zkM} {t : Nat → Int32} {L : Nat → Nat} {N p s : Nat} (h1 : t 15 = jN N) (h2 : t 16 = jN p) (hL : zLt L N (zem.1 9)) (hps : p ≤ s) (hsN : s ≤ N) (hsp : ∀ i, p ≤ i → i < s → L i = 32) (hend : s = N ∨ L s ≠ 32) : fMd_next_L0 500 (zk_row zem 0 t) = some (zk_row zem 0 (upd t 16 (jN s))) := by
  have hN := hL.1
  have h15 : ∀ q, upd t 16 (jN q) 15 = jN N := fun q => by rw [upd_ne (by omega)]; exact h1
  have := zl_eq (fun n (q : Nat) => fMd_next_L0 n (zk_row zem 0 (upd t 16 (jN q)))) (fun k => p + k) (s - p) (zk_row zem 0 (upd t 16 (jN s))) ?_ ?_ 500 (by omega)
  · rw [Nat.add_zero, upd_self h2] at this
    exact this
  · intro n k hk
    have hl := hsp (p + k) (by omega) (by omega)
    simp only [fMd_next_L0, zk_row_on, upd_same, letIn (h15 _) hL (show p + k < N by omega), hl]
    simp (disch := omega) only [zk_let, Option.bind_some, cond_true, cond_false, if_true, if_false, zbF, zbT, within_in, jn9, k0, k1, k2, k3, k4, k5, k6, k7, k8, k9, k10, k12, k16, k17, k20, k29, k30, k31, k32, k36, k40, k41, k42, k48, k57, k59, k60, k64, k98, k99, k100, k112, k128, k200, k255, k256, k378, k420, k999, k1000000, jN_add, jN_mul, jN_clamp, jN_inbT, Bool.false_eq_true, Bool.true_eq_false, zk_u_row, zk_row_row, zk_row_on, upd_same, upd_upd]
    rfl
  · intro n
    rw [show p + (s - p) = s by omega]
    simp only [fMd_next_L0, zk_row_on, upd_same]
    by_cases c : s = N
    · rw [letOut (h15 _) hN (by omega) (by omega)]
      simp only [Option.bind_some]
      rw [if_neg (by decide)]
    · have hne : ¬ L s = 32 := by
        rcases hend with h | h
        · exact absurd h c
        · exact h
      have l2 := (hL.2 s (by omega)).2
      rw [letIn (h15 _) hL (by omega)]
      simp only [Option.bind_some]
      rw [if_neg (by rw [k32, jN_eq (by omega) (by omega)]; exact hne)]
/-- the class's number, digit by digit -/
def vX (L : Nat → Nat) (s : Nat) : Nat → Int32
  | 0 => jN 0
  | k + 1 => vX L s k * jN 10 + jN (L (s + k)) - jN 48
theorem vX_1 {L : Nat → Nat} {s : Nat} (h : 48 ≤ L s) : vX L s 1 = jN (L s - 48) := by
  show jN 0 * jN 10 + jN (L (s + 0)) - jN 48 = _
  rw [jN_mul, jN_add, Nat.add_zero, jN_sub (by omega)]; congr 1; omega
theorem vX_2 {L : Nat → Nat} {s : Nat} (h : 48 ≤ L s) (h2 : 48 ≤ L (s + 1)) : vX L s 2 = jN (10 * (L s - 48) + (L (s + 1) - 48)) := by
  show vX L s 1 * jN 10 + jN (L (s + 1)) - jN 48 = _
  rw [vX_1 h, jN_mul, jN_add, jN_sub (by omega)]; congr 1; omega
theorem numX {mem : zkM} {r : Nat → Int32} {L : Nat → Nat} {N s e : Nat} (h1 : r 1 = jN N) (h2 : r 2 = jN s) (h3 : r 3 = jN s) (hL : zLt L N (mem.1 2)) (hse : s < e) (heN : e ≤ N) (hdg : ∀ i, s ≤ i → i < e → isD (L i) = true) (hend : e = N ∨ isD (L e) = false) : fScript_stepOverNumber (zk_row mem 1 r) = some (zk_row mem 1 (upd (upd (upd r 5 (vX L s (e - s))) 2 (jN e)) 4 (jN (tkN L s e)))) := by
  have hN := hL.1
  have e5 : fScript_stepOverNumber_L5 500 (zk_row mem 1 (upd r 5 (jN 0))) = some (zk_row mem 1 (upd (upd r 5 (vX L s (e - s))) 2 (jN e))) := by
    have := zl_eq (fun n (k : Nat) => fScript_stepOverNumber_L5 n (zk_row mem 1 (upd (upd r 5 (vX L s k)) 2 (jN (s + k))))) (fun k => k) (e - s) (zk_row mem 1 (upd (upd r 5 (vX L s (e - s))) 2 (jN e))) ?_ ?_ 500 (by omega)
    · rw [Nat.add_zero, upd_self (f := upd r 5 (vX L s 0)) (by rw [upd_ne (by omega)]; exact h2)] at this
      exact this
    · intro n k hk
      obtain ⟨l1, l2⟩ := hL.2 (s + k) (by omega)
      have hd := hdg (s + k) (by omega) (by omega)
      simp only [fScript_stepOverNumber_L5, fScript_isDigit, within_in, zk_row_on, zk_row_off (show (2 : Nat) ≠ 1 by omega), upd_same, upd_ne (show (1 : Nat) ≠ 2 by omega), upd_ne (show (1 : Nat) ≠ 5 by omega), upd_ne (show (5 : Nat) ≠ 2 by omega), h1]
      simp (disch := omega) only [zk_let, Option.bind_some, cond_true, cond_false, if_true, if_false, zbF, zbT, within_in, jn9, k0, k1, k2, k3, k4, k5, k6, k7, k8, k9, k10, k12, k16, k17, k20, k29, k30, k31, k32, k36, k40, k41, k42, k48, k57, k59, k60, k64, k98, k99, k100, k112, k128, k200, k255, k256, k378, k420, k999, k1000000, jN_add, jN_mul, jN_clamp, jN_inbT, Bool.false_eq_true, Bool.true_eq_false, jN_le, l1, isD_in, hd, zk_u_row, zk_row_row, zk_row_on, upd_same, upd_ne (show (2 : Nat) ≠ 5 by omega)]
      rw [if_neg (by omega)]
      have e9 : upd (upd (upd (upd r 5 (vX L s k)) 2 (jN (s + k))) 5 (vX L s k * jN 10 + jN (L (s + k)) - jN 48)) 2 (jN (s + k + 1)) = upd (upd r 5 (vX L s (k + 1))) 2 (jN (s + (k + 1))) := by
        funext j
        by_cases c : j = 2
        · rw [c, upd_same, upd_same]; rfl
        · rw [upd_ne c, upd_ne (f := upd r 5 _) c]
          by_cases c5 : j = 5
          · rw [c5, upd_same, upd_same]; rfl
          · rw [upd_ne c5, upd_ne c, upd_ne c5, upd_ne c5]
      rw [e9]
    · intro n
      rw [show s + (e - s) = e by omega]
      simp only [fScript_stepOverNumber_L5, fScript_isDigit, within_in, zk_row_on, zk_row_off (show (2 : Nat) ≠ 1 by omega), upd_same, upd_ne (show (1 : Nat) ≠ 2 by omega), upd_ne (show (1 : Nat) ≠ 5 by omega), h1]
      by_cases c : e = N
      · simp (disch := omega) only [zk_let, Option.bind_some, cond_true, cond_false, if_true, if_false, zbF, zbT, within_in, jn9, k0, k1, k2, k3, k4, k5, k6, k7, k8, k9, k10, k12, k16, k17, k20, k29, k30, k31, k32, k36, k40, k41, k42, k48, k57, k59, k60, k64, k98, k99, k100, k112, k128, k200, k255, k256, k378, k420, k999, k1000000, jN_add, jN_mul, jN_clamp, jN_inbT, Bool.false_eq_true, Bool.true_eq_false, jN_le]
        rw [if_pos (by omega)]
      · obtain ⟨l1, l2⟩ := hL.2 e (by omega)
        have hne : isD (L e) = false := by
          rcases hend with h | h
          · exact absurd h c
          · exact h
        simp (disch := omega) only [zk_let, Option.bind_some, cond_true, cond_false, if_true, if_false, zbF, zbT, within_in, jn9, k0, k1, k2, k3, k4, k5, k6, k7, k8, k9, k10, k12, k16, k17, k20, k29, k30, k31, k32, k36, k40, k41, k42, k48, k57, k59, k60, k64, k98, k99, k100, k112, k128, k200, k255, k256, k378, k420, k999, k1000000, jN_add, jN_mul, jN_clamp, jN_inbT, Bool.false_eq_true, Bool.true_eq_false, jN_le, l1, isD_in, hne]
        rw [if_neg (by omega)]
  have hs := hL.2 s (by omega)
  unfold fScript_stepOverNumber
  simp only [k0, zk_let, zk_u_row, zk_row_row, zk_row_on, e5, Option.bind_some]
  simp only [upd_same, upd_ne (show (3 : Nat) ≠ 2 by omega), upd_ne (show (3 : Nat) ≠ 5 by omega), h3, zk_row_off (show (2 : Nat) ≠ 1 by omega), jN_sub (show s ≤ e by omega)]
  simp (disch := omega) only [zk_let, Option.bind_some, cond_true, cond_false, if_true, if_false, zbF, zbT, within_in, jn9, k0, k1, k2, k3, k4, k5, k6, k7, k8, k9, k10, k12, k16, k17, k20, k29, k30, k31, k32, k36, k40, k41, k42, k48, k57, k59, k60, k64, k98, k99, k100, k112, k128, k200, k255, k256, k378, k420, k999, k1000000, jN_add, jN_mul, jN_clamp, jN_inbT, Bool.false_eq_true, Bool.true_eq_false, jN_eq, hs.1]
  unfold tkN
  by_cases c1 : e - s = 1
  · rw [if_pos c1, if_pos (Or.inl c1)]; rfl
  · rw [if_neg c1]
    by_cases c2 : e - s = 2
    · rw [if_pos c2]
      by_cases c3 : L s = 48
      · rw [if_pos c3, if_neg (by omega)]; rfl
      · rw [if_neg c3, if_pos (Or.inr ⟨c2, c3⟩)]; rfl
    · rw [if_neg c2, if_neg (by omega)]; rfl
theorem stepX {mem : zkM} {r : Nat → Int32} {L : Nat → Nat} {N p s e tk v : Nat} (h1 : r 1 = jN N) (h2 : r 2 = jN p) (hL : zLt L N (mem.1 2)) (h : Tk L N p s e tk v) : ∃ r', fScript_step (zk_row mem 1 r) = some (zk_row mem 1 r') ∧ r' 1 = jN N ∧ r' 2 = jN e ∧ r' 3 = jN s ∧ r' 4 = jN tk ∧ (tk = 1 → r' 5 = jN v) := by
  have hN := hL.1
  obtain ⟨g1, g2, g3, g4⟩ := h
  have hend : s = N ∨ L s ≠ 32 := by
    rcases g4 with ⟨a, -⟩ | ⟨-, a, -⟩ | ⟨-, a, -⟩
    · exact Or.inl a
    · exact Or.inr a
    · right; intro e9; rw [e9] at a; cases a
  have e0 := skipX h1 h2 hL g1 g2 g3 hend
  unfold fScript_step
  rw [e0]
  simp only [Option.bind_some, zk_let, zk_u_row, zk_row_row, zk_row_on, upd_same, upd_ne (show (2 : Nat) ≠ 3 by omega), upd_ne (show (1 : Nat) ≠ 3 by omega), upd_ne (show (1 : Nat) ≠ 2 by omega), h1, zk_row_off (show (2 : Nat) ≠ 1 by omega)]
  rcases g4 with ⟨a1, a2, a3⟩ | ⟨a1, a2, a3, a4, a5⟩ | ⟨a1, a2, a3, a4, a5, a6, a7, a8⟩
  · rw [if_neg (by rw [jN_lt (by omega) (by omega)]; omega)]
    refine ⟨_, rfl, ?_, ?_, ?_, ?_, fun h9 => by omega⟩
    · rw [upd_ne (by omega), upd_ne (by omega), upd_ne (by omega)]; exact h1
    · rw [upd_ne (by omega), upd_ne (by omega), upd_same, a3]
    · rw [upd_ne (by omega), upd_same]
    · rw [upd_same, a2, k0]
  · obtain ⟨l1, l2⟩ := hL.2 s a1
    rw [if_pos (by rw [jN_lt (by omega) (by omega)]; omega)]
    unfold fScript_isDigit
    simp only [within_in, k48, k57, zk_row_off (show (2 : Nat) ≠ 1 by omega)]
    simp (disch := omega) only [jN_clamp, jN_inbT, cond_true, l1, isD_in, a3, k0, zbF, if_true]
    have em : fScript_isMark (jN (L s)) = isM (L s) := by
      unfold fScript_isMark isM
      rw [k98, k112, k99, k59]
      simp (disch := omega) only [jN_eq]
      by_cases c1 : L s = 98
      · simp [c1]
      · by_cases c2 : L s = 112
        · simp [c2]
        · by_cases c3 : L s = 99
          · simp [c3]
          · by_cases c4 : L s = 59
            · simp [c4]
            · simp [c1, c2, c3, c4]
    simp only [em]
    refine ⟨upd (upd (upd (upd r 2 (jN s)) 3 (jN s)) 4 (jN tk)) 2 (jN e), ?_, ?_, ?_, ?_, ?_, fun h9 => ?_⟩
    · have e9 : (if isM (L s) = false then some (2 : Int32) else some (jN (L s))) = some (jN tk) := by
        rw [a5]
        cases isM (L s)
        · rw [if_pos rfl, if_neg (by decide), k2]
        · rw [if_neg (by decide), if_pos rfl]
      rw [e9]
      simp only [Option.bind_some, upd_ne (show (2 : Nat) ≠ 4 by omega), upd_ne (show (2 : Nat) ≠ 3 by omega), upd_same, k1, jN_add, a4]
    · rw [upd_ne (by omega), upd_ne (by omega), upd_ne (by omega), upd_ne (by omega)]; exact h1
    · rw [upd_same]
    · rw [upd_ne (by omega), upd_ne (by omega), upd_same]
    · rw [upd_ne (by omega), upd_same]
    · exfalso
      rw [a5] at h9
      split at h9
      · rename_i c9; rw [h9] at c9; cases c9
      · omega
  · obtain ⟨l1, l2⟩ := hL.2 s a1
    rw [if_pos (by rw [jN_lt (by omega) (by omega)]; omega)]
    unfold fScript_isDigit
    simp only [within_in, k48, k57, zk_row_off (show (2 : Nat) ≠ 1 by omega)]
    simp (disch := omega) only [jN_clamp, jN_inbT, cond_true, l1, isD_in, a2, k0, zbF, Bool.true_eq_false, if_false]
    have e5 := numX (mem := mem) (r := upd (upd r 2 (jN s)) 3 (jN s)) (L := L) (N := N) (s := s) (e := e) (by rw [upd_ne (by omega), upd_ne (by omega)]; exact h1) (by rw [upd_ne (by omega), upd_same]) (by rw [upd_same]) hL a3 a4 a5 a6
    rw [e5]
    refine ⟨_, rfl, ?_, ?_, ?_, ?_, fun h9 => ?_⟩
    · rw [upd_ne (by omega), upd_ne (by omega), upd_ne (by omega), upd_ne (by omega), upd_ne (by omega)]; exact h1
    · rw [upd_ne (by omega), upd_same]
    · rw [upd_ne (by omega), upd_ne (by omega), upd_ne (by omega), upd_same]
    · rw [upd_same, a7]
    · rw [upd_ne (by omega), upd_ne (by omega), upd_same]
      have d0 := a5 s (by omega) a3
      unfold isD at d0
      rw [decide_eq_true_eq] at d0
      rw [a7] at h9
      unfold tkN at h9
      rw [a8]
      unfold nv
      by_cases c1 : e - s = 1
      · rw [if_pos c1, c1, vX_1 (by omega)]
      · rw [if_neg c1]
        by_cases c2 : e - s = 2
        · have d1 := a5 (s + 1) (by omega) (by omega)
          unfold isD at d1
          rw [decide_eq_true_eq] at d1
          rw [c2, vX_2 (by omega) (by omega)]
        · rw [if_neg (by omega)] at h9; omega
/-! the model -/
def mk (tk : Nat) : Nat := if tk = 0 then 0 else if tk = 1 then 2 else if tk = 2 then 4 else if tk = 59 then 3 else 1
def vM (L : Nat → Nat) (s : Nat) : Nat → Int32
  | 0 => jN (L s - 48)
  | k + 1 => if k + 1 < 2 then jN 10 * vM L s k + jN (L (s + 1 + k)) - jN 48 else vM L s k
theorem numM {zem : zkM} {t : Nat → Int32} {L : Nat → Nat} {N s e : Nat} (h1 : t 15 = jN N) (h2 : t 16 = jN (s + 1)) (h3 : t 17 = jN s) (h4 : t 19 = jN (L s - 48)) (hL : zLt L N (zem.1 9)) (hse : s < e) (heN : e ≤ N) (hdg : ∀ i, s ≤ i → i < e → isD (L i) = true) (hend : e = N ∨ isD (L e) = false) : fMd_next_L124 500 (zk_row zem 0 t) = some (zk_row zem 0 (upd (upd t 19 (vM L s (e - s - 1))) 16 (jN e))) := by
  have hN := hL.1
  have h15 : ∀ x q, upd (upd t 19 x) 16 (jN q) 15 = jN N := fun x q => by rw [upd_ne (by omega), upd_ne (by omega)]; exact h1
  have h17 : ∀ x q, upd (upd t 19 x) 16 (jN q) 17 = jN s := fun x q => by rw [upd_ne (by omega), upd_ne (by omega)]; exact h3
  have h19 : ∀ x q, upd (upd t 19 x) 16 (jN q) 19 = x := fun x q => by rw [upd_ne (by omega), upd_same]
  have := zl_eq (fun n (k : Nat) => fMd_next_L124 n (zk_row zem 0 (upd (upd t 19 (vM L s k)) 16 (jN (s + 1 + k))))) (fun k => k) (e - s - 1) (zk_row zem 0 (upd (upd t 19 (vM L s (e - s - 1))) 16 (jN e))) ?_ ?_ 500 (by omega)
  · rw [Nat.add_zero, upd_self (f := upd t 19 (vM L s 0)) (by rw [upd_ne (by omega)]; exact h2), upd_self (show t 19 = vM L s 0 from h4)] at this
    exact this
  · intro n k hk
    have hd := hdg (s + 1 + k) (by omega) (by omega)
    have l2 := (hL.2 (s + 1 + k) (by omega)).2
    simp only [fMd_next_L124, zk_row_on, upd_same, letIn (h15 _ _) hL (show s + 1 + k < N by omega), h17, h19, jN_sub (show s ≤ s + 1 + k by omega)]
    simp (disch := omega) only [zk_let, Option.bind_some, cond_true, cond_false, if_true, if_false, zbF, zbT, within_in, jn9, k0, k1, k2, k3, k4, k5, k6, k7, k8, k9, k10, k12, k16, k17, k20, k29, k30, k31, k32, k36, k40, k41, k42, k48, k57, k59, k60, k64, k98, k99, k100, k112, k128, k200, k255, k256, k378, k420, k999, k1000000, jN_add, jN_mul, jN_clamp, jN_inbT, Bool.false_eq_true, Bool.true_eq_false, isD_in, hd, jN_le, zk_u_row, zk_row_row, zk_row_on, upd_same, upd_ne (show (16 : Nat) ≠ 19 by omega)]
    have e9 : (if 2 ≤ s + 1 + k - s then some (vM L s k) else some (jN 10 * vM L s k + jN (L (s + 1 + k)) - jN 48)) = some (vM L s (k + 1)) := by
      have e8 : vM L s (k + 1) = if k + 1 < 2 then jN 10 * vM L s k + jN (L (s + 1 + k)) - jN 48 else vM L s k := rfl
      rw [e8]
      by_cases c : k + 1 < 2
      · rw [if_pos c, if_neg (by omega)]
      · rw [if_neg c, if_pos (by omega)]
    rw [e9]
    simp only [Option.bind_some]
    have e7 : upd (upd (upd (upd t 19 (vM L s k)) 16 (jN (s + 1 + k))) 19 (vM L s (k + 1))) 16 (jN (s + 1 + k + 1)) = upd (upd t 19 (vM L s (k + 1))) 16 (jN (s + 1 + (k + 1))) := by
      funext j
      by_cases c : j = 16
      · rw [c, upd_same, upd_same]; rfl
      · rw [upd_ne c, upd_ne (f := upd t 19 _) c]
        by_cases c5 : j = 19
        · rw [c5, upd_same, upd_same]
        · rw [upd_ne c5, upd_ne c, upd_ne c5, upd_ne c5]
    rw [e7]
  · intro n
    rw [show s + 1 + (e - s - 1) = e by omega]
    simp only [fMd_next_L124, zk_row_on, upd_same]
    by_cases c : e = N
    · rw [letOut (h15 _ _) hN (by omega) (by omega)]
      simp only [Option.bind_some]
      rw [if_pos (by decide)]
    · have hne : isD (L e) = false := by
        rcases hend with h | h
        · exact absurd h c
        · exact h
      have l2 := (hL.2 e (by omega)).2
      rw [letIn (h15 _ _) hL (by omega)]
      simp (disch := omega) only [zk_let, Option.bind_some, cond_true, cond_false, if_true, if_false, zbF, zbT, within_in, jn9, k0, k1, k2, k3, k4, k5, k6, k7, k8, k9, k10, k12, k16, k17, k20, k29, k30, k31, k32, k36, k40, k41, k42, k48, k57, k59, k60, k64, k98, k99, k100, k112, k128, k200, k255, k256, k378, k420, k999, k1000000, jN_add, jN_mul, jN_clamp, jN_inbT, Bool.false_eq_true, Bool.true_eq_false, isD_in, hne]
theorem nextM {zem : zkM} {t : Nat → Int32} {L : Nat → Nat} {N p s e tk v : Nat} (h1 : t 15 = jN N) (h2 : t 16 = jN p) (hL : zLt L N (zem.1 9)) (h : Tk L N p s e tk v) : ∃ t', fMd_next (zk_row zem 0 t) = some (zk_row zem 0 t') ∧ (∀ i, i < 16 ∨ 19 < i → t' i = t i) ∧ t' 16 = jN e ∧ t' 17 = jN s ∧ t' 18 = jN (mk tk) ∧ (tk = 1 → t' 19 = jN v) ∧ (mk tk = 1 → t' 19 = jN tk) := by
  have hN := hL.1
  obtain ⟨g1, g2, g3, g4⟩ := h
  have hend : s = N ∨ L s ≠ 32 := by
    rcases g4 with ⟨a, -⟩ | ⟨-, a, -⟩ | ⟨-, a, -⟩
    · exact Or.inl a
    · exact Or.inr a
    · right; intro e9; rw [e9] at a; cases a
  have e0 := skipM h1 h2 hL g1 g2 g3 hend
  have h15 : upd (upd t 16 (jN s)) 17 (jN s) 15 = jN N := by rw [upd_ne (by omega), upd_ne (by omega)]; exact h1
  unfold fMd_next
  rw [e0]
  simp only [Option.bind_some, zk_let, zk_u_row, zk_row_row, zk_row_on, upd_same, upd_ne (show (16 : Nat) ≠ 17 by omega)]
  rcases g4 with ⟨a1, a2, a3⟩ | ⟨a1, a2, a3, a4, a5⟩ | ⟨a1, a2, a3, a4, a5, a6, a7, a8⟩
  · rw [letOut h15 hN (by omega) (by omega)]
    simp only [Option.bind_some]
    rw [if_neg (by decide)]
    refine ⟨_, rfl, fun i hi => ?_, ?_, ?_, ?_, fun h9 => by omega, fun h9 => ?_⟩
    · rw [upd_ne (by omega), upd_ne (by omega), upd_ne (by omega)]
    · rw [upd_ne (by omega), upd_ne (by omega), upd_same, a3]
    · rw [upd_ne (by omega), upd_same]
    · rw [upd_same, a2]; rfl
    · rw [a2] at h9; cases h9
  · have l2 := (hL.2 s a1).2
    rw [letIn h15 hL a1]
    simp only [Option.bind_some]
    rw [if_pos (by rw [k0, jN_le (by omega) (by omega)]; omega)]
    simp (disch := omega) only [zk_let, Option.bind_some, cond_true, cond_false, if_true, if_false, zbF, zbT, within_in, jn9, k0, k1, k2, k3, k4, k5, k6, k7, k8, k9, k10, k12, k16, k17, k20, k29, k30, k31, k32, k36, k40, k41, k42, k48, k57, k59, k60, k64, k98, k99, k100, k112, k128, k200, k255, k256, k378, k420, k999, k1000000, jN_add, jN_mul, jN_clamp, jN_inbT, Bool.false_eq_true, Bool.true_eq_false, isD_in, a3]
    refine ⟨_, rfl, fun i hi => ?_, ?_, ?_, ?_, fun h9 => ?_, fun h9 => ?_⟩
    · rw [upd_ne (by omega), upd_ne (by omega), upd_ne (by omega), upd_ne (by omega), upd_ne (by omega)]
    · rw [upd_ne (by omega), upd_ne (by omega), upd_same, a4]
    · rw [upd_ne (by omega), upd_ne (by omega), upd_ne (by omega), upd_same]
    · rw [upd_same, a5]
      simp (disch := omega) only [jN_eq]
      unfold isM mk
      by_cases c1 : L s = 98
      · simp [c1]
      · by_cases c2 : L s = 112
        · simp [c2]
        · by_cases c3 : L s = 99
          · simp [c3]
          · by_cases c4 : L s = 59
            · simp [c4]
            · simp [c1, c2, c3, c4]
    · exfalso
      rw [a5] at h9
      split at h9
      · rename_i c9; rw [h9] at c9; cases c9
      · omega
    · rw [upd_ne (by omega), upd_same]
      rw [a5] at h9 ⊢
      cases e9 : isM (L s)
      · rw [e9] at h9; cases h9
      · rw [if_pos rfl]
  · have l2 := (hL.2 s a1).2
    have d0 := a2
    unfold isD at d0
    rw [decide_eq_true_eq] at d0
    rw [letIn h15 hL a1]
    simp only [Option.bind_some]
    rw [if_pos (by rw [k0, jN_le (by omega) (by omega)]; omega)]
    simp (disch := omega) only [zk_let, Option.bind_some, cond_true, cond_false, if_true, if_false, zbF, zbT, within_in, jn9, k0, k1, k2, k3, k4, k5, k6, k7, k8, k9, k10, k12, k16, k17, k20, k29, k30, k31, k32, k36, k40, k41, k42, k48, k57, k59, k60, k64, k98, k99, k100, k112, k128, k200, k255, k256, k378, k420, k999, k1000000, jN_add, jN_mul, jN_clamp, jN_inbT, Bool.false_eq_true, Bool.true_eq_false, isD_in, a2, jN_sub (show 48 ≤ L s by omega)]
    rw [numM (L := L) (N := N) (s := s) (e := e) ?_ ?_ ?_ ?_ hL a3 a4 a5 a6]
    · simp (disch := omega) only [Option.bind_some, zk_row_on, upd_ne, upd_same, jN_sub (show s ≤ e by omega), zk_row_row, jN_le, jN_eq]
      have hv : tkN L s e = 1 → vM L s (e - s - 1) = jN (nv L s e) := by
        intro h9
        unfold tkN at h9
        unfold nv
        by_cases c1 : e - s = 1
        · rw [if_pos c1, c1]; rfl
        · rw [if_neg c1]
          by_cases c2 : e - s = 2
          · have d1 := a5 (s + 1) (by omega) (by omega)
            unfold isD at d1
            rw [decide_eq_true_eq] at d1
            rw [c2]
            show (if 0 + 1 < 2 then jN 10 * jN (L s - 48) + jN (L (s + 1 + 0)) - jN 48 else _) = _
            rw [if_pos (by omega), Nat.add_zero, jN_mul, jN_add, jN_sub (by omega)]; congr 1; omega
          · rw [if_neg (by omega)] at h9; omega
      have hm1 : tkN L s e = 1 ∨ tkN L s e = 2 := by unfold tkN; split <;> simp
      have hmk : mk tk ≠ 1 := by
        rw [a7]
        rcases hm1 with h9 | h9 <;> rw [h9] <;> decide
      by_cases c3 : 3 ≤ e - s
      · rw [if_pos c3]
        refine ⟨_, rfl, fun i hi => ?_, ?_, ?_, ?_, fun h9 => ?_, fun h9 => absurd h9 hmk⟩
        · simp (disch := omega) only [upd_ne]
        · simp (disch := omega) only [upd_ne, upd_same]
        · simp (disch := omega) only [upd_ne, upd_same]
        · rw [upd_same, a7, show tkN L s e = 2 from if_neg (by omega)]; rfl
        · rw [a7, show tkN L s e = 2 from if_neg (by omega)] at h9; omega
      · rw [if_neg c3]
        by_cases c4 : L s = 48
        · rw [if_pos c4]
          by_cases c5 : e - s = 1
          · rw [if_pos c5]
            refine ⟨_, rfl, fun i hi => ?_, ?_, ?_, ?_, fun h9 => ?_, fun h9 => absurd h9 hmk⟩
            · simp (disch := omega) only [upd_ne]
            · simp (disch := omega) only [upd_ne, upd_same]
            · simp (disch := omega) only [upd_ne, upd_same]
            · rw [upd_same, a7, show tkN L s e = 1 from if_pos (by omega)]; rfl
            · simp (disch := omega) only [upd_ne, upd_same]
              rw [a8]; exact hv (by rw [← a7]; exact h9)
          · rw [if_neg c5]
            refine ⟨_, rfl, fun i hi => ?_, ?_, ?_, ?_, fun h9 => ?_, fun h9 => absurd h9 hmk⟩
            · simp (disch := omega) only [upd_ne]
            · simp (disch := omega) only [upd_ne, upd_same]
            · simp (disch := omega) only [upd_ne, upd_same]
            · rw [upd_same, a7, show tkN L s e = 2 from if_neg (by omega)]; rfl
            · rw [a7, show tkN L s e = 2 from if_neg (by omega)] at h9; omega
        · rw [if_neg c4]
          refine ⟨_, rfl, fun i hi => ?_, ?_, ?_, ?_, fun h9 => ?_, fun h9 => absurd h9 hmk⟩
          · simp (disch := omega) only [upd_ne]
          · simp (disch := omega) only [upd_ne, upd_same]
          · simp (disch := omega) only [upd_ne, upd_same]
          · rw [upd_same, a7, show tkN L s e = 1 from if_pos (by omega)]; rfl
          · simp (disch := omega) only [upd_ne, upd_same]
            rw [a8]; exact hv (by rw [← a7]; exact h9)
    · simp (disch := omega) only [upd_ne]; exact h1
    · simp (disch := omega) only [upd_ne, upd_same]
    · simp (disch := omega) only [upd_ne, upd_same]
    · rw [upd_same]
theorem Tk_tk {L : Nat → Nat} {N p s e tk v : Nat} (h : Tk L N p s e tk v) : p ≤ s ∧ s ≤ N ∧ e ≤ N ∧ (tk = 0 ∨ tk = 1 ∨ tk = 2 ∨ tk = 59 ∨ tk = 98 ∨ tk = 99 ∨ tk = 112) ∧ (tk = 1 → v ≤ 99) := by
  obtain ⟨g1, g2, g3, g4⟩ := h
  rcases g4 with ⟨a1, a2, a3⟩ | ⟨a1, a2, a3, a4, a5⟩ | ⟨a1, a2, a3, a4, a5, a6, a7, a8⟩
  · exact ⟨g1, g2, by omega, Or.inl a2, fun h9 => by omega⟩
  · refine ⟨g1, g2, by omega, ?_, fun h9 => ?_⟩
    · rw [a5]
      by_cases c : isM (L s) = true
      · rw [if_pos c]
        unfold isM at c
        rw [decide_eq_true_eq] at c
        omega
      · rw [if_neg c]; omega
    · exfalso
      rw [a5] at h9
      split at h9
      · rename_i c9; rw [h9] at c9; cases c9
      · omega
  · refine ⟨g1, g2, a4, ?_, fun h9 => ?_⟩
    · rw [a7]; unfold tkN; split <;> simp
    · have d0 := a5 s (by omega) a3
      unfold isD at d0
      rw [decide_eq_true_eq] at d0
      rw [a7] at h9
      unfold tkN at h9
      rw [a8]
      unfold nv
      by_cases c1 : e - s = 1
      · rw [if_pos c1]; omega
      · rw [if_neg c1]
        by_cases c2 : e - s = 2
        · have d1 := a5 (s + 1) (by omega) (by omega)
          unfold isD at d1
          rw [decide_eq_true_eq] at d1
          omega
        · rw [if_neg (by omega)] at h9; omega
