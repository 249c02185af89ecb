/-! WHAT THE TREE AND NOW ARE, by functions of natural numbers.
T 0 0, T 0 1, T 0 2: how many BOUGHS, PLANKS, CHILDREN; T 1..3: height, strong, sway; T 4..6: the BOUGHS of a PLANK, what it holds; T 7, 8: weight, paid.
R 0..2: kind, WEAR, out of an END; R 3: the PLANK under a child (none, where it is no PLANK's number); R 4 0: GALES -/
def zTb (T : Nat → Nat → Nat) : Prop := T 0 0 ≤ 8 ∧ T 0 1 ≤ 6 ∧ T 0 2 ≤ 5 ∧ (∀ b, b < T 0 0 → T 1 b ≤ 20 ∧ 1 ≤ T 2 b ∧ T 2 b ≤ 60 ∧ T 3 b ≤ 3) ∧ (∀ p, p < T 0 1 → T 4 p < T 0 0 ∧ T 5 p < T 0 0 ∧ 1 ≤ T 6 p ∧ T 6 p ≤ 40) ∧ ∀ c, c < T 0 2 → 1 ≤ T 7 c ∧ T 7 c ≤ 9 ∧ T 8 c ≤ 9
def zTx (T : Nat → Nat → Nat) (s : Nat → Nat → Int32) : Prop := s 46 0 = jN (T 0 0) ∧ s 46 1 = jN (T 0 1) ∧ s 46 2 = jN (T 0 2) ∧ (∀ b, b < T 0 0 → s 47 b = jN (T 1 b) ∧ s 48 b = jN (T 2 b) ∧ s 49 b = jN (T 3 b)) ∧ (∀ p, p < T 0 1 → s 51 (2 * p) = jN (T 4 p) ∧ s 51 (2 * p + 1) = jN (T 5 p) ∧ s 50 p = jN (T 6 p)) ∧ ∀ c, c < T 0 2 → s 53 c = jN (T 7 c) ∧ s 54 c = jN (T 8 c)
def zTm (T : Nat → Nat → Nat) (t : Nat → Nat → Int32) : Prop := t 0 0 = jN (T 0 0) ∧ t 0 2 = jN (T 0 1) ∧ t 0 4 = jN (T 0 2) ∧ (∀ b, b < T 0 0 → t 1 (3 * b) = jN (T 1 b) ∧ t 1 (3 * b + 1) = jN (T 2 b) ∧ t 1 (3 * b + 2) = jN (T 3 b)) ∧ (∀ p, p < T 0 1 → t 2 (3 * p) = jN (T 4 p) ∧ t 2 (3 * p + 1) = jN (T 5 p) ∧ t 2 (3 * p + 2) = jN (T 6 p)) ∧ ∀ c, c < T 0 2 → t 3 (2 * c) = jN (T 7 c) ∧ t 3 (2 * c + 1) = jN (T 8 c)
def zTof (NB NP NC : Nat) (t : Nat → Nat → Int32) : Nat → Nat → Nat
  | 0, 0 => NB
  | 0, 1 => NP
  | 0, _ => NC
  | 1, j => (t 1 (3 * j)).toNatClampNeg
  | 2, j => (t 1 (3 * j + 1)).toNatClampNeg
  | 3, j => (t 1 (3 * j + 2)).toNatClampNeg
  | 4, j => (t 2 (3 * j)).toNatClampNeg
  | 5, j => (t 2 (3 * j + 1)).toNatClampNeg
  | 6, j => (t 2 (3 * j + 2)).toNatClampNeg
  | 7, j => (t 3 (2 * j)).toNatClampNeg
  | _, j => (t 3 (2 * j + 1)).toNatClampNeg
theorem zTree.ex {NB NP NC : Nat} {s t : Nat → Nat → Int32} (h : zTree NB NP NC s t) : ∃ T : Nat → Nat → Nat, T 0 0 = NB ∧ T 0 1 = NP ∧ T 0 2 = NC ∧ zTb T ∧ zTx T s ∧ zTm T t := by
  obtain ⟨⟨b1, b2, b3⟩, ⟨e1, e2⟩, ⟨e3, e4⟩, ⟨e5, e6⟩, hb, hp, hc⟩ := h
  refine ⟨zTof NB NP NC t, rfl, rfl, rfl, ⟨b1, b2, b3, fun b h => ?_, fun p h => ?_, fun c h => ?_⟩, ⟨e1, e3, e5, fun b h => ?_, fun p h => ?_, fun c h => ?_⟩, ⟨e2, e4, e6, fun b h => ?_, fun p h => ?_, fun c h => ?_⟩⟩
  all_goals simp only [zTof] at h ⊢
  · obtain ⟨h1, g, w, a1, a2, a3, a4, a5, a6, a7, a8, a9, a10⟩ := hb b h
    rw [a2, a5, a9, iI_clampN (by omega), iI_clampN (by omega), iI_clampN (by omega)]; omega
  · obtain ⟨h1, g, w, a1, a2, a3, a4, a5, a6, a7, a8, a9, a10⟩ := hp p h
    rw [a2, a5, a8, iI_clampN (by omega), iI_clampN (by omega), iI_clampN (by omega)]; omega
  · obtain ⟨h1, g, a1, a2, a3, a4, a5, a6, a7⟩ := hc c h
    rw [a2, a6, iI_clampN (by omega), iI_clampN (by omega)]; omega
  · obtain ⟨h1, g, w, a1, a2, a3, a4, a5, a6, a7, a8, a9, a10⟩ := hb b h
    rw [a2, a5, a9, iI_clampN (by omega), iI_clampN (by omega), iI_clampN (by omega)]; exact ⟨a1, a4, a8⟩
  · obtain ⟨h1, g, w, a1, a2, a3, a4, a5, a6, a7, a8, a9, a10⟩ := hp p h
    rw [a2, a5, a8, iI_clampN (by omega), iI_clampN (by omega), iI_clampN (by omega)]; exact ⟨a1, a4, a7⟩
  · obtain ⟨h1, g, a1, a2, a3, a4, a5, a6, a7⟩ := hc c h
    rw [a2, a6, iI_clampN (by omega), iI_clampN (by omega)]; exact ⟨a1, a5⟩
  · obtain ⟨h1, g, w, a1, a2, a3, a4, a5, a6, a7, a8, a9, a10⟩ := hb b h
    rw [a2, a5, a9, iI_clampN (by omega), iI_clampN (by omega), iI_clampN (by omega)]; exact ⟨rfl, rfl, rfl⟩
  · obtain ⟨h1, g, w, a1, a2, a3, a4, a5, a6, a7, a8, a9, a10⟩ := hp p h
    rw [a2, a5, a8, iI_clampN (by omega), iI_clampN (by omega), iI_clampN (by omega)]; exact ⟨rfl, rfl, rfl⟩
  · obtain ⟨h1, g, a1, a2, a3, a4, a5, a6, a7⟩ := hc c h
    rw [a2, a6, iI_clampN (by omega), iI_clampN (by omega)]; exact ⟨rfl, rfl⟩
theorem zTree.of {T : Nat → Nat → Nat} {s t : Nat → Nat → Int32} (hb : zTb T) (hx : zTx T s) (hm : zTm T t) : zTree (T 0 0) (T 0 1) (T 0 2) s t := by
  obtain ⟨b1, b2, b3, b4, b5, b6⟩ := hb
  obtain ⟨x1, x2, x3, x4, x5, x6⟩ := hx
  obtain ⟨m1, m2, m3, m4, m5, m6⟩ := hm
  refine ⟨⟨b1, b2, b3⟩, ⟨x1, m1⟩, ⟨x2, m2⟩, ⟨x3, m3⟩, fun b h => ?_, fun p h => ?_, fun c h => ?_⟩
  · exact ⟨T 1 b, T 2 b, T 3 b, (x4 b h).1, (m4 b h).1, (b4 b h).1, (x4 b h).2.1, (m4 b h).2.1, (b4 b h).2.1, (b4 b h).2.2.1, (x4 b h).2.2, (m4 b h).2.2, (b4 b h).2.2.2⟩
  · exact ⟨T 4 p, T 5 p, T 6 p, (x5 p h).1, (m5 p h).1, (b5 p h).1, (x5 p h).2.1, (m5 p h).2.1, (b5 p h).2.1, (x5 p h).2.2, (m5 p h).2.2, (b5 p h).2.2⟩
  · exact ⟨T 7 c, T 8 c, (x6 c h).1, (m6 c h).1, (b6 c h).1, (b6 c h).2.1, (x6 c h).2, (m6 c h).2, (b6 c h).2.2⟩
def zOn (T : Nat → Nat → Nat) (n : Nat) : Int32 := if n < T 0 1 then jN n else jNo
def zSb (T R : Nat → Nat → Nat) : Prop := R 4 0 ≤ 999 ∧ ∀ e, e < 2 * T 0 1 → R 0 e ≤ 3 ∧ R 1 e < 64 ∧ R 2 e ≤ 1 ∧ (R 2 e = 0 → R 1 e < zGv (R 0 e))
def zSx (T R : Nat → Nat → Nat) (r : Nat → Int32) : Prop := r 41 = jN (R 4 0) ∧ (∀ c, c < T 0 2 → r c = zOn T (R 3 c)) ∧ ∀ e, e < 2 * T 0 1 → r (5 + e) = jN (R 0 e) ∧ r (17 + e) = jN (R 1 e) ∧ r (29 + e) = jN (R 2 e)
def zSm (T R : Nat → Nat → Nat) (t : Nat → Int32) : Prop := t 0 = jN (R 4 0) ∧ (∀ c, c < T 0 2 → t (1 + c) = zOn T (R 3 c)) ∧ ∀ e, e < 2 * T 0 1 → t (6 + 3 * e) = jN (R 0 e) ∧ t (7 + 3 * e) = jN (R 1 e) ∧ t (8 + 3 * e) = jN (R 2 e)
def zRof (g : Nat) (t : Nat → Int32) : Nat → Nat → Nat
  | 0, j => (t (6 + 3 * j)).toNatClampNeg
  | 1, j => (t (7 + 3 * j)).toNatClampNeg
  | 2, j => (t (8 + 3 * j)).toNatClampNeg
  | 3, j => if t (1 + j) = jNo then 6 else (t (1 + j)).toNatClampNeg
  | _, _ => g
theorem zRow.ex {T : Nat → Nat → Nat} {r t : Nat → Int32} (hT : zTb T) (h : zRow (T 0 1) (T 0 2) r t) : ∃ R, zSb T R ∧ zSx T R r ∧ zSm T R t := by
  obtain ⟨⟨g1, g, g2, g3⟩, hc, he⟩ := h
  have hP : T 0 1 ≤ 6 := hT.2.1
  refine ⟨zRof g t, ⟨g2, fun e h => ?_⟩, ⟨g1.trans g3, fun c h => ?_, fun e h => ?_⟩, ⟨g3, fun c h => ?_, fun e h => ?_⟩⟩
  all_goals simp only [zRof]
  · obtain ⟨a1, a2, a3, k, w, o, a4, a5, a6, a7, a8, a9, a10⟩ := he e h
    rw [a4, a6, a8, iI_clampN (by omega), iI_clampN (by omega), iI_clampN (by omega)]
    exact ⟨a5, a7, a9, a10⟩
  · obtain ⟨a1, a2⟩ := hc c h
    rw [a1]
    rcases a2 with a2 | ⟨p, hp, a2⟩
    · rw [a2, iI_no, if_pos rfl]; unfold zOn; rw [if_neg (by omega)]
    · rw [a2, jN_def, if_neg (jN_no (by omega)), jN_clamp (by omega)]; unfold zOn; rw [if_pos hp]
  · obtain ⟨a1, a2, a3, k, w, o, a4, a5, a6, a7, a8, a9, a10⟩ := he e h
    rw [a1, a2, a3, a4, a6, a8, iI_clampN (by omega), iI_clampN (by omega), iI_clampN (by omega)]
    exact ⟨rfl, rfl, rfl⟩
  · obtain ⟨a1, a2⟩ := hc c h
    rcases a2 with a2 | ⟨p, hp, a2⟩
    · rw [a2, iI_no, if_pos rfl]; unfold zOn; rw [if_neg (by omega)]
    · rw [a2, jN_def, if_neg (jN_no (by omega)), jN_clamp (by omega)]; unfold zOn; rw [if_pos hp]
  · obtain ⟨a1, a2, a3, k, w, o, a4, a5, a6, a7, a8, a9, a10⟩ := he e h
    rw [a4, a6, a8, iI_clampN (by omega), iI_clampN (by omega), iI_clampN (by omega)]
    exact ⟨rfl, rfl, rfl⟩
theorem zRow.of {T R : Nat → Nat → Nat} {r t : Nat → Int32} (hb : zSb T R) (hx : zSx T R r) (hm : zSm T R t) : zRow (T 0 1) (T 0 2) r t := by
  refine ⟨⟨hx.1.trans hm.1.symm, R 4 0, hb.1, hm.1⟩, fun c h => ⟨(hx.2.1 c h).trans (hm.2.1 c h).symm, ?_⟩, fun e h => ?_⟩
  · rw [hm.2.1 c h]; unfold zOn
    by_cases hp : R 3 c < T 0 1
    · rw [if_pos hp]; exact Or.inr ⟨_, hp, rfl⟩
    · rw [if_neg hp]; exact Or.inl rfl
  · obtain ⟨a1, a2, a3⟩ := hx.2.2 e h
    obtain ⟨c1, c2, c3⟩ := hm.2.2 e h
    obtain ⟨d1, d2, d3, d4⟩ := hb.2 e h
    exact ⟨a1.trans c1.symm, a2.trans c2.symm, a3.trans c3.symm, R 0 e, R 1 e, R 2 e, c1, d1, c2, d2, c3, d3, d4⟩
theorem zRel.ex {y z : zkM} (h : zRel y z) : ∃ T R, zTb T ∧ zTx T y.1 ∧ zTm T z.1 ∧ zSb T R ∧ zSx T R (y.1 5) ∧ zSm T R (z.1 4) ∧ zPast (T 0 1) (T 0 2) y.1 z.1 ∧ zAlbum (T 0 1) (T 0 2) y.1 z.1 ∧ zRot (T 0 1) y.1 z.1 ∧ zText y.1 z.1 ∧ y.2 0 12 = z.2 0 13 := by
  obtain ⟨NB, NP, NC, hT, hR, hP, hA, hO, hX, hB⟩ := h
  obtain ⟨T, rfl, rfl, rfl, h1, h2, h3⟩ := hT.ex
  obtain ⟨R, h4, h5, h6⟩ := zRow.ex h1 hR
  exact ⟨T, R, h1, h2, h3, h4, h5, h6, hP, hA, hO, hX, hB⟩
theorem zRel.of {y z : zkM} {T R : Nat → Nat → Nat} (h1 : zTb T) (h2 : zTx T y.1) (h3 : zTm T z.1) (h4 : zSb T R) (h5 : zSx T R (y.1 5)) (h6 : zSm T R (z.1 4)) (hP : zPast (T 0 1) (T 0 2) y.1 z.1) (hA : zAlbum (T 0 1) (T 0 2) y.1 z.1) (hO : zRot (T 0 1) y.1 z.1) (hX : zText y.1 z.1) (hB : y.2 0 12 = z.2 0 13) : zRel y z :=
  ⟨T 0 0, T 0 1, T 0 2, zTree.of h1 h2 h3, zRow.of h4 h5 h6, hP, hA, hO, hX, hB⟩
