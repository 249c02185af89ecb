/-! tree -/
def R00 (T : Nat → Nat → Nat) (a e : Nat) : Nat := if a = 0 then (if e % 2 = 0 then T 9 (e / 2) else T 10 (e / 2)) else if a = 3 then 6 else 0
theorem R00_0 {T : Nat → Nat → Nat} {e : Nat} : R00 T 0 e = if e % 2 = 0 then T 9 (e / 2) else T 10 (e / 2) := if_pos rfl
theorem R00_1 {T : Nat → Nat → Nat} {e : Nat} : R00 T 1 e = 0 := by unfold R00; rw [if_neg (by omega), if_neg (by omega)]
theorem R00_2 {T : Nat → Nat → Nat} {e : Nat} : R00 T 2 e = 0 := by unfold R00; rw [if_neg (by omega), if_neg (by omega)]
theorem R00_3 {T : Nat → Nat → Nat} {e : Nat} : R00 T 3 e = 6 := by unfold R00; rw [if_neg (by omega), if_pos rfl]
theorem R00_4 {T : Nat → Nat → Nat} {e : Nat} : R00 T 4 e = 0 := by unfold R00; rw [if_neg (by omega), if_neg (by omega)]
theorem zOn_6 {T : Nat → Nat → Nat} (h : T 0 1 ≤ 6) : zOn T 6 = jNo := by unfold zOn; rw [if_neg (by omega)]
theorem pi_lo {a : Nat} (h : a < 46) : zk_pi a = a := by unfold zk_pi; rw [if_neg (by omega), if_neg (by omega)]
theorem pi_up {a : Nat} (h : 46 ≤ a) (h2 : a < 55) : zk_pi a = a + 9 := by unfold zk_pi; rw [if_pos ⟨h, h2⟩]
theorem swap_lo {m : zkM} {a : Nat} (h : a < 46) : (zk_swap m).1 a = m.1 a := by show m.1 (zk_pi a) = _; rw [pi_lo h]
theorem swap_up {m : zkM} {a : Nat} (h : 46 ≤ a) (h2 : a < 55) : (zk_swap m).1 a = m.1 (a + 9) := by show m.1 (zk_pi a) = _; rw [pi_up h h2]
theorem treeX {T : Nat → Nat → Nat} {m : zkM} {v : Int32} (hB : ToB T) (hX : ToX T m) : ∃ y', (fScene_begin (zk_u (zk_swap m) 1 1 (jN 0))).bind (fun q4 => zk_let (fPast_lose q4) (fun q5 => (fAlbum_lose q5).bind (fun q6 => zk_let (zk_u q6 26 0 (jN 0)) (fun m7 => some (v, m7))))) = some (v, y') ∧ zTx T y'.1 ∧ zSx T (R00 T) (y'.1 5) ∧ y'.1 9 1 = jN 0 ∧ y'.1 9 2 = jN 0 ∧ (∀ i, i < 2 → y'.1 25 i = jN 0) ∧ y'.1 26 0 = jN 0 ∧ y'.1 1 1 = jN 0 ∧ y'.2 0 = m.2 0 := by
  obtain ⟨⟨t1, t2, t3, -⟩, -⟩ := id hB
  obtain ⟨r, e1, r1, r2, r3⟩ := beginX (m := zk_u (zk_swap m) 1 1 (jN 0))
  obtain ⟨a, e2, a1⟩ := loseA (m := zk_u (zk_u (zk_row (zk_u (zk_swap m) 1 1 (jN 0)) 5 r) 9 1 (jN 0)) 9 2 (jN 0))
  have up : ∀ k, 46 ≤ k → k < 55 → (zk_u (zk_row (zk_u (zk_u (zk_row (zk_u (zk_swap m) 1 1 (jN 0)) 5 r) 9 1 (jN 0)) 9 2 (jN 0)) 25 a) 26 0 (jN 0)).1 k = m.1 (k + 9) := by
    intro k h1 h2
    rw [zk_u_off (by omega), zk_row_off (by omega), zk_u_off (by omega), zk_u_off (by omega), zk_row_off (by omega), zk_u_off (by omega)]
    exact swap_up h1 h2
  have h5 : (zk_u (zk_row (zk_u (zk_u (zk_row (zk_u (zk_swap m) 1 1 (jN 0)) 5 r) 9 1 (jN 0)) 9 2 (jN 0)) 25 a) 26 0 (jN 0)).1 5 = r := by
    rw [zk_u_off (by omega), zk_row_off (by omega), zk_u_off (by omega), zk_u_off (by omega), zk_row_on]
  have h52 : (zk_u (zk_swap m) 1 1 (jN 0)).1 52 = m.1 61 := by rw [zk_u_off (by omega)]; exact swap_up (by omega) (by omega)
  refine ⟨zk_u (zk_row (zk_u (zk_u (zk_row (zk_u (zk_swap m) 1 1 (jN 0)) 5 r) 9 1 (jN 0)) 9 2 (jN 0)) 25 a) 26 0 (jN 0), ?_, ?_, ?_, ?_, ?_, ?_, ?_, ?_, ?_⟩
  · rw [e1]
    simp only [Option.bind_some, fPast_lose, zk_let, k0, e2]
  · refine ⟨by rw [up 46 (by omega) (by omega)]; exact hX.1, by rw [up 46 (by omega) (by omega)]; exact hX.2.1, by rw [up 46 (by omega) (by omega)]; exact hX.2.2.1, fun b hb => ?_, fun p hp => ?_, fun c hc => ?_⟩
    · rw [up 47 (by omega) (by omega), up 48 (by omega) (by omega), up 49 (by omega) (by omega)]; exact hX.2.2.2.1 b hb
    · rw [up 51 (by omega) (by omega), up 50 (by omega) (by omega)]
      have := hX.2.2.2.2.1 p hp
      exact ⟨this.1, this.2.1, this.2.2.1⟩
    · rw [up 53 (by omega) (by omega), up 54 (by omega) (by omega)]; exact hX.2.2.2.2.2 c hc
  · rw [h5]
    refine ⟨by rw [R00_4]; exact r3, fun c hc => ?_, fun e he => ?_⟩
    · rw [r1 c (by omega), R00_3, zOn_6 t2]
    · have h9 := r2 e (by omega)
      rw [h52] at h9
      refine ⟨?_, by rw [R00_1]; exact h9.2.1, by rw [R00_2]; exact h9.2.2⟩
      rw [h9.1]
      have hp := hX.2.2.2.2.1 (e / 2) (by omega)
      rw [R00_0]
      by_cases c : e % 2 = 0
      · have h7 := hp.2.2.2.1
        rw [show 2 * (e / 2) = e by omega] at h7
        rw [if_pos c]; exact h7
      · have h7 := hp.2.2.2.2
        rw [show 2 * (e / 2) + 1 = e by omega] at h7
        rw [if_neg c]; exact h7
  · rw [zk_u_off (by omega), zk_row_off (by omega), zk_u_ne (by omega), zk_u_at]
  · rw [zk_u_off (by omega), zk_row_off (by omega), zk_u_at]
  · intro i hi
    rw [zk_u_off (by omega), zk_row_on]; exact a1 i hi
  · rw [zk_u_at]
  · rw [zk_u_off (by omega), zk_row_off (by omega), zk_u_off (by omega), zk_u_off (by omega), zk_row_off (by omega), zk_u_at]
  · show m.2 (zk_pi 0) = m.2 0
    rfl
