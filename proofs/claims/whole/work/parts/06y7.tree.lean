/-! tree -/
def R00 (T : Nat → Nat → Nat) : Nat → Nat → Nat
  | 0, e => if e % 2 = 0 then T 9 (e / 2) else T 10 (e / 2)
  | 3, _ => 6
  | _, _ => 0
theorem pi_lo {a : Nat} (h : a < 46) : zk_pi a = a := by unfold zk_pi; rw [if_neg (by omega), if_neg (by omega)]
theorem pi_up {a : Nat} (h : 46 ≤ a) (h2 : a < 55) : zk_pi a = a + 9 := by unfold zk_pi; rw [if_pos ⟨h, h2⟩]
theorem swap_lo {m : zkM} {a : Nat} (h : a < 46) : (zk_swap m).1 a = m.1 a := by show m.1 (zk_pi a) = _; rw [pi_lo h]
theorem swap_up {m : zkM} {a : Nat} (h : 46 ≤ a) (h2 : a < 55) : (zk_swap m).1 a = m.1 (a + 9) := by show m.1 (zk_pi a) = _; rw [pi_up h h2]
theorem treeX {T : Nat → Nat → Nat} {m : zkM} (hB : ToB T) (hX : ToX T m) : ∃ y', (fScene_begin (zk_u (zk_swap m) 1 1 (jN 0))).bind (fun q4 => zk_let (fPast_lose q4) (fun q5 => (fAlbum_lose q5).bind (fun q6 => zk_let (zk_u q6 26 0 (jN 0)) (fun m7 => some m7)))) = some y' ∧ zTx T y'.1 ∧ zSx T (R00 T) (y'.1 5) ∧ y'.1 9 1 = jN 0 ∧ y'.1 9 2 = jN 0 ∧ (∀ i, i < 2 → y'.1 25 i = jN 0) ∧ y'.1 26 0 = jN 0 ∧ y'.1 1 1 = jN 0 ∧ y'.2 0 = m.2 0 := by
  obtain ⟨⟨t1, t2, t3, -⟩, -⟩ := id hB
  obtain ⟨r, e1, r1, r2, r3⟩ := beginX (m := zk_u (zk_swap m) 1 1 (jN 0))
  obtain ⟨a, e2, a1⟩ := loseA (m := zk_u (zk_u (zk_row (zk_u (zk_swap m) 1 1 (jN 0)) 5 r) 9 1 (jN 0)) 9 2 (jN 0))
  have up : ∀ k, 46 ≤ k → k < 55 → (zk_u (zk_row (zk_u (zk_u (zk_row (zk_u (zk_swap m) 1 1 (jN 0)) 5 r) 9 1 (jN 0)) 9 2 (jN 0)) 25 a) 26 0 (jN 0)).1 k = m.1 (k + 9) := by
    intro k h1 h2
    rw [zk_u_off (by omega), zk_row_off (by omega), zk_u_off (by omega), zk_u_off (by omega), zk_row_off (by omega), zk_u_off (by omega)]
    exact swap_up h1 h2
  have h5 : (zk_u (zk_row (zk_u (zk_u (zk_row (zk_u (zk_swap m) 1 1 (jN 0)) 5 r) 9 1 (jN 0)) 9 2 (jN 0)) 25 a) 26 0 (jN 0)).1 5 = r := by
    rw [zk_u_off (by omega), zk_row_off (by omega), zk_u_off (by omega), zk_u_off (by omega), zk_row_on]
  have h52 : (zk_u (zk_swap m) 1 1 (jN 0)).1 52 = m.1 61 := by rw [zk_u_off (by omega)]; exact swap_up (by omega) (by omega)
  refine ⟨zk_u (zk_row (zk_u (zk_u (zk_row (zk_u (zk_swap m) 1 1 (jN 0)) 5 r) 9 1 (jN 0)) 9 2 (jN 0)) 25 a) 26 0 (jN 0), ?_, ?_, ?_, ?_, ?_, ?_, ?_, ?_, ?_⟩
  · rw [e1]
    simp only [Option.bind_some, fPast_lose, zk_let, k0, e2]
  · refine ⟨by rw [up 46 (by omega) (by omega)]; exact hX.1, by rw [up 46 (by omega) (by omega)]; exact hX.2.1, by rw [up 46 (by omega) (by omega)]; exact hX.2.2.1, fun b hb => ?_, fun p hp => ?_, fun c hc => ?_⟩
    · rw [up 47 (by omega) (by omega), up 48 (by omega) (by omega), up 49 (by omega) (by omega)]; exact hX.2.2.2.1 b hb
    · rw [up 51 (by omega) (by omega), up 50 (by omega) (by omega)]
      have := hX.2.2.2.2.1 p hp
      exact ⟨this.1, this.2.1, this.2.2.1⟩
    · rw [up 53 (by omega) (by omega), up 54 (by omega) (by omega)]; exact hX.2.2.2.2.2 c hc
  · rw [h5]
    refine ⟨r3, fun c hc => ?_, fun e he => ?_⟩
    · rw [r1 c (by omega)]
      exact (if_neg (by show ¬ 6 < T 0 1; omega)).symm
    · have h9 := r2 e (by omega)
      rw [h52] at h9
      refine ⟨?_, h9.2.1, h9.2.2⟩
      rw [h9.1]
      have hp := hX.2.2.2.2.1 (e / 2) (by omega)
      show _ = jN (if e % 2 = 0 then T 9 (e / 2) else T 10 (e / 2))
      by_cases c : e % 2 = 0
      · rw [if_pos c, ← hp.2.2.2.1]; congr 1; omega
      · rw [if_neg c, ← hp.2.2.2.2]; congr 1; omega
  · rw [zk_u_off (by omega), zk_row_off (by omega), zk_u_ne (by omega), zk_u_at]
  · rw [zk_u_off (by omega), zk_row_off (by omega), zk_u_at]
  · intro i hi
    rw [zk_u_off (by omega), zk_row_on]; exact a1 i hi
  · rw [zk_u_at]
  · rw [zk_u_off (by omega), zk_row_off (by omega), zk_u_off (by omega), zk_u_off (by omega), zk_row_off (by omega), zk_u_at]
  · show m.2 (zk_pi 0) = m.2 0
    rfl
theorem treeM {T : Nat → Nat → Nat} {m : zkM} (hB : ToB T) (hM : ToM T m) : ∃ z', (zk_let (zk_u m 0 0 (m.1 0 21)) (fun m8 => zk_let (zk_u m8 0 2 (m8.1 0 23)) (fun m9 => zk_let (zk_u m9 0 4 (m9.1 0 25)) (fun m10 => (fMd_tree_L96 500 m10 (0 : Int32)).bind (fun q11 => (fMd_tree_L117 500 q11 (0 : Int32)).bind (fun q12 => (fMd_tree_L143 500 q12 (0 : Int32)).bind (fun q13 => (fMd_tree_L238 500 q13 (0 : Int32)).bind (fun q14 => (fMd_tree_L264 500 q14 (0 : Int32)).bind (fun q15 => zk_let (zk_u q15 0 8 (0 : Int32)) (fun m16 => zk_let (zk_u m16 0 11 (0 : Int32)) (fun m17 => zk_let (zk_u m17 7 (Int32.toNatClampNeg (0 : Int32)) (0 : Int32)) (fun m18 => zk_let (zk_u m18 7 (Int32.toNatClampNeg (1 : Int32)) (0 : Int32)) (fun m19 => zk_let (zk_u m19 0 15 (0 : Int32)) (fun m20 => some m20)))))))))))))) = some z' ∧ zTm T z'.1 ∧ zSm T (R00 T) (z'.1 4) ∧ z'.1 0 8 = jN 0 ∧ z'.1 0 11 = jN 0 ∧ (∀ i, i < 2 → z'.1 7 i = jN 0) ∧ z'.1 0 15 = jN 0 ∧ z'.2 = m.2 := by
  obtain ⟨⟨t1, t2, t3, -⟩, -⟩ := id hB
  generalize hm10 : zk_u (zk_u (zk_u m 0 0 (m.1 0 21)) 0 2 ((zk_u m 0 0 (m.1 0 21)).1 0 23)) 0 4 ((zk_u (zk_u m 0 0 (m.1 0 21)) 0 2 ((zk_u m 0 0 (m.1 0 21)).1 0 23)).1 0 25) = m10
  have g0 : m10.1 0 0 = jN (T 0 0) := by rw [← hm10, zk_u_ne (by omega), zk_u_ne (by omega), zk_u_at]; exact hM.1
  have g2 : m10.1 0 2 = jN (T 0 1) := by rw [← hm10, zk_u_ne (by omega), zk_u_at, zk_u_ne (by omega)]; exact hM.2.1
  have g4 : m10.1 0 4 = jN (T 0 2) := by rw [← hm10, zk_u_at, zk_u_ne (by omega), zk_u_ne (by omega)]; exact hM.2.2.1
  have goff : ∀ k, k ≠ 0 → m10.1 k = m.1 k := by intro k hk; rw [← hm10, zk_u_off hk, zk_u_off hk, zk_u_off hk]
  have gl : m10.2 = m.2 := by rw [← hm10]; rfl
  obtain ⟨r4, e1, h1⟩ := fMd_tree_L96_c (m := m10)
  obtain ⟨r1, e2, h2⟩ := fMd_tree_L117_c (m := zk_row m10 4 r4)
  obtain ⟨a, b, e3, h3, h3'⟩ := tree143 (T := T) (m := zk_row (zk_row m10 4 r4) 1 r1) t2 (by rw [zk_row_off (by omega), zk_row_off (by omega)]; exact g2)
  obtain ⟨r3, e4, h4⟩ := fMd_tree_L238_c (m := zk_row (zk_row (zk_row (zk_row m10 4 r4) 1 r1) 2 a) 4 b)
  obtain ⟨s4, e5, h5, h5'⟩ := tree264 (m := zk_row (zk_row (zk_row (zk_row (zk_row m10 4 r4) 1 r1) 2 a) 4 b) 3 r3)
  generalize hq : zk_row (zk_row (zk_row (zk_row (zk_row (zk_row m10 4 r4) 1 r1) 2 a) 4 b) 3 r3) 4 s4 = q at e5
  have q0 : q.1 0 = m10.1 0 := by rw [← hq]; rfl
  have q1 : q.1 1 = r1 := by rw [← hq]; rfl
  have q2 : q.1 2 = a := by rw [← hq]; rfl
  have q3 : q.1 3 = r3 := by rw [← hq]; rfl
  have q4 : q.1 4 = s4 := by rw [← hq]; rfl
  have q10 : (zk_row m10 4 r4).1 10 = m.1 10 := by rw [zk_row_off (by omega)]; exact goff 10 (by omega)
  have q11 : (zk_row (zk_row m10 4 r4) 1 r1).1 11 = m.1 11 := by rw [zk_row_off (by omega), zk_row_off (by omega)]; exact goff 11 (by omega)
  have q12 : (zk_row (zk_row (zk_row (zk_row m10 4 r4) 1 r1) 2 a) 4 b).1 12 = m.1 12 := by rw [zk_row_off (by omega), zk_row_off (by omega), zk_row_off (by omega), zk_row_off (by omega)]; exact goff 12 (by omega)
  have qb : ∀ i, i = 0 ∨ 6 ≤ i → s4 i = b i := by
    intro i hi
    rw [h5' i hi, zk_row_off (by omega), zk_row_on]
  have qz : ∀ i, i < 42 → (i < 6 ∨ i % 3 ≠ 0) → b i = jN 0 := by
    intro i h9 hi
    rw [h3' i hi, zk_row_off (by omega), zk_row_on]; exact h1 i h9
  have w1 : ∀ k, k ≠ 0 → k ≠ 7 → (zk_u (zk_u (zk_u (zk_u (zk_u q 0 8 (jN 0)) 0 11 (jN 0)) 7 0 (jN 0)) 7 1 (jN 0)) 0 15 (jN 0)).1 k = q.1 k := by
    intro k i1 i2
    rw [zk_u_off i1, zk_u_off i2, zk_u_off i2, zk_u_off i1, zk_u_off i1]
  have w0 : ∀ i, i ≠ 8 → i ≠ 11 → i ≠ 15 → (zk_u (zk_u (zk_u (zk_u (zk_u q 0 8 (jN 0)) 0 11 (jN 0)) 7 0 (jN 0)) 7 1 (jN 0)) 0 15 (jN 0)).1 0 i = m10.1 0 i := by
    intro i i1 i2 i3
    rw [zk_u_ne i3, zk_u_off (by omega), zk_u_off (by omega), zk_u_ne i2, zk_u_ne i1, q0]
  refine ⟨zk_u (zk_u (zk_u (zk_u (zk_u q 0 8 (jN 0)) 0 11 (jN 0)) 7 0 (jN 0)) 7 1 (jN 0)) 0 15 (jN 0), ?_, ?_, ?_, ?_, ?_, ?_, ?_, ?_⟩
  · simp only [zk_let, hm10, k0, e1, e2, e3, e4, e5, Option.bind_some, k1, jN_clamp (show 0 < 2147483648 by omega), jN_clamp (show 1 < 2147483648 by omega)]
  · refine ⟨by rw [w0 0 (by omega) (by omega) (by omega)]; exact g0, by rw [w0 2 (by omega) (by omega) (by omega)]; exact g2, by rw [w0 4 (by omega) (by omega) (by omega)]; exact g4, fun i hi => ?_, fun p hp => ?_, fun c hc => ?_⟩
    · rw [w1 1 (by omega) (by omega), q1, h2 _ (by omega), h2 _ (by omega), h2 _ (by omega), q10]; exact hM.2.2.2.1 i hi
    · rw [w1 2 (by omega) (by omega), q2]
      have h9 := h3 p hp
      have h8 := hM.2.2.2.2.1 p hp
      rw [q11] at h9
      exact ⟨h9.1.trans h8.1, h9.2.1.trans h8.2.1, h9.2.2.1.trans h8.2.2.1⟩
    · rw [w1 3 (by omega) (by omega), q3, h4 _ (by omega), h4 _ (by omega), q12]; exact hM.2.2.2.2.2 c hc
  · rw [w1 4 (by omega) (by omega), q4]
    refine ⟨?_, fun c hc => ?_, fun e he => ?_⟩
    · rw [qb 0 (by omega), qz 0 (by omega) (by omega)]; rfl
    · rw [h5 c (by omega)]
      exact (if_neg (by show ¬ 6 < T 0 1; omega)).symm
    · refine ⟨?_, ?_, ?_⟩
      · rw [qb _ (by omega)]
        have h9 := h3 (e / 2) (by omega)
        have h8 := hM.2.2.2.2.1 (e / 2) (by omega)
        rw [q11] at h9
        show _ = jN (if e % 2 = 0 then T 9 (e / 2) else T 10 (e / 2))
        by_cases c : e % 2 = 0
        · rw [if_pos c, ← h8.2.2.2.1, ← h9.2.2.2.1]; congr 1; omega
        · rw [if_neg c, ← h8.2.2.2.2, ← h9.2.2.2.2]; congr 1; omega
      · rw [qb _ (by omega), qz _ (by omega) (by omega)]; rfl
      · rw [qb _ (by omega), qz _ (by omega) (by omega)]; rfl
  · rw [zk_u_ne (by omega), zk_u_off (by omega), zk_u_off (by omega), zk_u_ne (by omega), zk_u_at]
  · rw [zk_u_ne (by omega), zk_u_off (by omega), zk_u_off (by omega), zk_u_at]
  · intro i hi
    rw [zk_u_off (by omega)]
    rcases (show i = 0 ∨ i = 1 by omega) with h | h
    · rw [h, zk_u_ne (by omega), zk_u_at]
    · rw [h, zk_u_at]
  · rw [zk_u_at]
  · show q.2 = m.2
    rw [← hq]; exact gl
theorem pr_tree {y z : zkM} (h : zRel y z) : ∃ v y' z', sX_tree y v y' ∧ sM_tree z v z' ∧ zRel y' z' := by
  obtain ⟨T, R, hA⟩ := h.all
  obtain ⟨-, -, -, -, -, -, -, -, -, ⟨N, hN, x1, x2, hx⟩, hB9⟩ := id hA
  obtain ⟨L, hL⟩ : ∃ L : Nat → Nat, ∀ i, i < N → y.1 2 i = jN (L i) ∧ z.1 9 i = jN (L i) ∧ L i ≤ 255 := by
    refine ⟨fun i => (y.1 2 i).toNatClampNeg, fun i hi => ?_⟩
    obtain ⟨c, hc, e1, e2⟩ := hx i hi
    have e3 : (y.1 2 i).toNatClampNeg = c := by rw [e1]; exact iI_clampN (by omega)
    rw [e3]
    exact ⟨e1, e2, hc⟩
  have ht : Tx L N y z := ⟨x1, x2, ⟨hN, fun i hi => ⟨(hL i hi).1, (hL i hi).2.2⟩⟩, ⟨hN, fun i hi => ⟨(hL i hi).2.1, (hL i hi).2.2⟩⟩⟩
  obtain ⟨mem, zem, s, tk, v, f1, g1, P⟩ := begun ht
  have hp := parse ht 19 500 500 T00 mem zem s tk v B00 P (by decide) (by omega) (by omega)
  rw [show T00 0 0 + T00 0 1 + T00 0 2 = 0 from rfl] at hp
  unfold sX_tree sM_tree fTp_tree fMd_tree fScript_readInto fTree_strip
  simp only [zk_let, k0, f1, g1, Option.bind_some]
  rcases hp with ⟨mem', zem', x, s', e1, e2, e3, e4, e5, e6, e7⟩ | ⟨mem', zem', T', k, e1, e2, e3, e4, hB, hX, hM, e6, e7⟩
  · refine ⟨-jN 10 - jN s', mem', zem', ?_, ?_, h.same e3.kx e4.km⟩
    · rw [e1]
      simp only [Option.bind_some, Sum.elim_inl]
      have hneg : ¬ jN 0 ≤ -jN 10 - jN s' := by
        unfold jN
        rw [iI_neg, iI_sub, iI_le (by omega) (by omega) (by omega) (by omega)]
        omega
      rw [if_neg hneg]
    · rw [e2]
      simp only [Option.bind_some]
      rw [e6, if_neg (by decide), e5, k10]
  · obtain ⟨y', a1, a2, a3, a4, a5, a6, a7, a8, a9⟩ := treeX hB hX
    obtain ⟨z', b1, b2, b3, b4, b5, b6, b7, b8⟩ := treeM hB hM
    simp only [zk_let, k0] at a1 b1
    have hrel : zRel y' z' := by
      refine zRel.of (T := T') (R := R00 T') hB.1 a2 b2 ⟨by show 0 ≤ 999; omega, fun e he => ?_⟩ a3 b3 ⟨0, 0, by omega, by omega, a4, b4, a5, fun j hj => by omega⟩ (fun m hm => ⟨(a6 m hm).trans (b6 m hm).symm, Or.inl (b6 m hm)⟩) ⟨0, by omega, a7, b5, fun j hj => by omega⟩ ⟨0, by omega, a8, b7, fun j hj => by omega⟩ ?_
      · have hk := hB.2 (e / 2) (by omega)
        refine ⟨?_, by show 0 < 64; omega, by show 0 ≤ 1; omega, fun _ => zGv_pos _⟩
        show (if e % 2 = 0 then T' 9 (e / 2) else T' 10 (e / 2)) ≤ 3
        split <;> omega
      · rw [a9, e3.2.2, b8, e4.2.2]; exact hB9
    refine ⟨jN k, y', z', ?_, ?_, hrel⟩
    · rw [e1]
      simp only [Option.bind_some, Sum.elim_inr]
      rw [if_pos (by rw [jN_le (by omega) (by omega)]; omega)]
      revert a1
      cases hq4 : fScene_begin (zk_u (zk_swap mem') 1 1 (jN 0)) with
      | none => intro a1; cases a1
      | some q4 =>
        simp only [Option.bind_some]
        cases hq6 : fAlbum_lose (fPast_lose q4) with
        | none => intro a1; cases a1
        | some q6 =>
          simp only [Option.bind_some]
          intro a1
          rw [Option.some.inj a1]
    · rw [e2]
      simp only [Option.bind_some]
      rw [e6, if_pos rfl]
      sorry
