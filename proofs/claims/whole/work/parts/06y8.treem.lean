theorem zk_let_eq {α β : Type} (a : α) (g : α → β) : zk_let a g = g a := rfl
theorem treeM {T : Nat → Nat → Nat} {m : zkM} {v : Int32} (hB : ToB T) (hM : ToM T m) : ∃ z', (zk_let (zk_u m 0 0 (m.1 0 21)) (fun m8 => zk_let (zk_u m8 0 2 (m8.1 0 23)) (fun m9 => zk_let (zk_u m9 0 4 (m9.1 0 25)) (fun m10 => (fMd_tree_L96 500 m10 (0 : Int32)).bind (fun q11 => (fMd_tree_L117 500 q11 (0 : Int32)).bind (fun q12 => (fMd_tree_L143 500 q12 (0 : Int32)).bind (fun q13 => (fMd_tree_L238 500 q13 (0 : Int32)).bind (fun q14 => (fMd_tree_L264 500 q14 (0 : Int32)).bind (fun q15 => zk_let (zk_u q15 0 8 (0 : Int32)) (fun m16 => zk_let (zk_u m16 0 11 (0 : Int32)) (fun m17 => zk_let (zk_u m17 7 (Int32.toNatClampNeg (0 : Int32)) (0 : Int32)) (fun m18 => zk_let (zk_u m18 7 (Int32.toNatClampNeg (1 : Int32)) (0 : Int32)) (fun m19 => zk_let (zk_u m19 0 15 (0 : Int32)) (fun m20 => some (v, m20))))))))))))))) = some (v, z') ∧ zTm T z'.1 ∧ zSm T (R00 T) (z'.1 4) ∧ z'.1 0 8 = jN 0 ∧ z'.1 0 11 = jN 0 ∧ (∀ i, i < 2 → z'.1 7 i = jN 0) ∧ z'.1 0 15 = jN 0 ∧ z'.2 = m.2 := by
  obtain ⟨⟨t1, t2, t3, -⟩, -⟩ := id hB
  generalize hm10 : zk_u (zk_u (zk_u m 0 0 (m.1 0 21)) 0 2 ((zk_u m 0 0 (m.1 0 21)).1 0 23)) 0 4 ((zk_u (zk_u m 0 0 (m.1 0 21)) 0 2 ((zk_u m 0 0 (m.1 0 21)).1 0 23)).1 0 25) = m10
  have g0 : m10.1 0 0 = jN (T 0 0) := by rw [← hm10, zk_u_ne (by omega), zk_u_ne (by omega), zk_u_at]; exact hM.1
  have g2 : m10.1 0 2 = jN (T 0 1) := by rw [← hm10, zk_u_ne (by omega), zk_u_at, zk_u_ne (by omega)]; exact hM.2.1
  have g4 : m10.1 0 4 = jN (T 0 2) := by rw [← hm10, zk_u_at, zk_u_ne (by omega), zk_u_ne (by omega)]; exact hM.2.2.1
  have goff : ∀ k, k ≠ 0 → m10.1 k = m.1 k := by intro k hk; rw [← hm10, zk_u_off hk, zk_u_off hk, zk_u_off hk]
  have gl : m10.2 = m.2 := by rw [← hm10]; rfl
  obtain ⟨r4, e1, h1⟩ := fMd_tree_L96_c (m := m10)
  obtain ⟨r1, e2, h2⟩ := fMd_tree_L117_c (m := zk_row m10 4 r4)
  obtain ⟨a, b, e3, h3, h3'⟩ := tree143 (T := T) (m := zk_row (zk_row m10 4 r4) 1 r1) t2 (by rw [zk_row_off (by omega), zk_row_off (by omega)]; exact g2)
  obtain ⟨r3, e4, h4⟩ := fMd_tree_L238_c (m := zk_row (zk_row (zk_row (zk_row m10 4 r4) 1 r1) 2 a) 4 b)
  obtain ⟨s4, e5, h5, h5'⟩ := tree264 (m := zk_row (zk_row (zk_row (zk_row (zk_row m10 4 r4) 1 r1) 2 a) 4 b) 3 r3)
  generalize hq : zk_row (zk_row (zk_row (zk_row (zk_row (zk_row m10 4 r4) 1 r1) 2 a) 4 b) 3 r3) 4 s4 = q at e5
  have q0 : q.1 0 = m10.1 0 := by rw [← hq]; rfl
  have q1 : q.1 1 = r1 := by rw [← hq]; rfl
  have q2 : q.1 2 = a := by rw [← hq]; rfl
  have q3 : q.1 3 = r3 := by rw [← hq]; rfl
  have q4 : q.1 4 = s4 := by rw [← hq]; rfl
  have q10 : (zk_row m10 4 r4).1 10 = m.1 10 := by rw [zk_row_off (by omega)]; exact goff 10 (by omega)
  have q11 : (zk_row (zk_row m10 4 r4) 1 r1).1 11 = m.1 11 := by rw [zk_row_off (by omega), zk_row_off (by omega)]; exact goff 11 (by omega)
  have q12 : (zk_row (zk_row (zk_row (zk_row m10 4 r4) 1 r1) 2 a) 4 b).1 12 = m.1 12 := by rw [zk_row_off (by omega), zk_row_off (by omega), zk_row_off (by omega), zk_row_off (by omega)]; exact goff 12 (by omega)
  have qb : ∀ i, i = 0 ∨ 6 ≤ i → s4 i = b i := by
    intro i hi
    rw [h5' i hi, zk_row_off (by omega), zk_row_on]
  have qz : ∀ i, i < 42 → (i < 6 ∨ i % 3 ≠ 0) → b i = jN 0 := by
    intro i h9 hi
    rw [h3' i hi, zk_row_off (by omega), zk_row_on]; exact h1 i h9
  have w1 : ∀ k, k ≠ 0 → k ≠ 7 → (zk_u (zk_u (zk_u (zk_u (zk_u q 0 8 (jN 0)) 0 11 (jN 0)) 7 0 (jN 0)) 7 1 (jN 0)) 0 15 (jN 0)).1 k = q.1 k := by
    intro k i1 i2
    rw [zk_u_off i1, zk_u_off i2, zk_u_off i2, zk_u_off i1, zk_u_off i1]
  have w0 : ∀ i, i ≠ 8 → i ≠ 11 → i ≠ 15 → (zk_u (zk_u (zk_u (zk_u (zk_u q 0 8 (jN 0)) 0 11 (jN 0)) 7 0 (jN 0)) 7 1 (jN 0)) 0 15 (jN 0)).1 0 i = m10.1 0 i := by
    intro i i1 i2 i3
    rw [zk_u_ne i3, zk_u_off (by omega), zk_u_off (by omega), zk_u_ne i2, zk_u_ne i1, q0]
  refine ⟨zk_u (zk_u (zk_u (zk_u (zk_u q 0 8 (jN 0)) 0 11 (jN 0)) 7 0 (jN 0)) 7 1 (jN 0)) 0 15 (jN 0), ?_, ?_, ?_, ?_, ?_, ?_, ?_, ?_⟩
  · rw [zk_let_eq, zk_let_eq, zk_let_eq, hm10, k0, e1, Option.bind_some, e2, Option.bind_some, e3, Option.bind_some, e4, Option.bind_some, e5, Option.bind_some, zk_let_eq, zk_let_eq, zk_let_eq, zk_let_eq, zk_let_eq, k1, jN_clamp (by omega), jN_clamp (by omega)]
  · refine ⟨by rw [w0 0 (by omega) (by omega) (by omega)]; exact g0, by rw [w0 2 (by omega) (by omega) (by omega)]; exact g2, by rw [w0 4 (by omega) (by omega) (by omega)]; exact g4, fun i hi => ?_, fun p hp => ?_, fun c hc => ?_⟩
    · rw [w1 1 (by omega) (by omega), q1, h2 _ (by omega), h2 _ (by omega), h2 _ (by omega), q10]; exact hM.2.2.2.1 i hi
    · rw [w1 2 (by omega) (by omega), q2]
      have h9 := h3 p hp
      have h8 := hM.2.2.2.2.1 p hp
      rw [q11] at h9
      exact ⟨h9.1.trans h8.1, h9.2.1.trans h8.2.1, h9.2.2.1.trans h8.2.2.1⟩
    · rw [w1 3 (by omega) (by omega), q3, h4 _ (by omega), h4 _ (by omega), q12]; exact hM.2.2.2.2.2 c hc
  · rw [w1 4 (by omega) (by omega), q4]
    refine ⟨?_, fun c hc => ?_, fun e he => ?_⟩
    · rw [qb 0 (by omega), qz 0 (by omega) (by omega), R00_4]
    · rw [h5 c (by omega), R00_3, zOn_6 t2]
    · refine ⟨?_, ?_, ?_⟩
      · rw [qb _ (by omega)]
        have h9 := h3 (e / 2) (by omega)
        have h8 := hM.2.2.2.2.1 (e / 2) (by omega)
        rw [q11] at h9
        rw [R00_0]
        by_cases c : e % 2 = 0
        · have h7 := h9.2.2.2.1.trans h8.2.2.2.1
          rw [show 6 + 6 * (e / 2) = 6 + 3 * e by omega] at h7
          rw [if_pos c]; exact h7
        · have h7 := h9.2.2.2.2.trans h8.2.2.2.2
          rw [show 6 + 6 * (e / 2) + 3 = 6 + 3 * e by omega] at h7
          rw [if_neg c]; exact h7
      · rw [qb _ (by omega), qz _ (by omega) (by omega), R00_1]
      · rw [qb _ (by omega), qz _ (by omega) (by omega), R00_2]
  · rw [zk_u_ne (by omega), zk_u_off (by omega), zk_u_off (by omega), zk_u_ne (by omega), zk_u_at]
  · rw [zk_u_ne (by omega), zk_u_off (by omega), zk_u_off (by omega), zk_u_at]
  · intro i hi
    rw [zk_u_off (by omega)]
    rcases (show i = 0 ∨ i = 1 by omega) with h | h
    · rw [h, zk_u_ne (by omega), zk_u_at]
    · rw [h, zk_u_at]
  · rw [zk_u_at]
  · show q.2 = m.2
    rw [← hq]; exact gl
