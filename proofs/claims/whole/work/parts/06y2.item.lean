/-! ITEMS: the class reads a number and asks, the model asks and reads on: in step, token by token -/
def zFc (y mem : zkM) : Prop := (∀ k, k ≠ 1 → k ≠ 3 → k < 55 → mem.1 k = y.1 k) ∧ mem.1 1 1 = y.1 1 1 ∧ mem.2 = y.2
def zFm (z zem : zkM) : Prop := (∀ k, k ≠ 0 → k ≠ 10 → k ≠ 11 → k ≠ 12 → zem.1 k = z.1 k) ∧ (∀ i, i < 16 → zem.1 0 i = z.1 0 i) ∧ zem.2 = z.2
theorem zFc.rf (y : zkM) : zFc y y := ⟨fun _ _ _ _ => rfl, rfl, rfl⟩
theorem zFm.rf (y : zkM) : zFm y y := ⟨fun _ _ _ _ _ => rfl, fun _ _ => rfl, rfl⟩
theorem zFc.u {y mem : zkM} {k i : Nat} {x : Int32} (h : zFc y mem) (hk : k = 3 ∨ 55 ≤ k) : zFc y (zk_u mem k i x) :=
  ⟨fun j h1 h2 h3 => by rw [zk_u_off (by omega)]; exact h.1 j h1 h2 h3, by rw [zk_u_off (by omega)]; exact h.2.1, h.2.2⟩
theorem zFc.row1 {y mem : zkM} {r : Nat → Int32} (h : zFc y mem) (hr : r 1 = mem.1 1 1) : zFc y (zk_row mem 1 r) :=
  ⟨fun j h1 h2 h3 => by rw [zk_row_off (by omega)]; exact h.1 j h1 h2 h3, by rw [zk_row_on, hr]; exact h.2.1, h.2.2⟩
theorem zFm.u {z zem : zkM} {k i : Nat} {x : Int32} (h : zFm z zem) (hk : k = 10 ∨ k = 11 ∨ k = 12) : zFm z (zk_u zem k i x) :=
  ⟨fun j h1 h2 h3 h4 => by rw [zk_u_off (by omega)]; exact h.1 j h1 h2 h3 h4, fun j hj => by rw [zk_u_off (by omega)]; exact h.2.1 j hj, h.2.2⟩
theorem zFm.f {z zem : zkM} {i : Nat} {x : Int32} (h : zFm z zem) (hi : 16 ≤ i) : zFm z (zk_u zem 0 i x) :=
  ⟨fun j h1 h2 h3 h4 => by rw [zk_u_off (by omega)]; exact h.1 j h1 h2 h3 h4, fun j hj => by rw [zk_u_ne (by omega)]; exact h.2.1 j hj, h.2.2⟩
theorem zFm.row0 {z zem : zkM} {t : Nat → Int32} (h : zFm z zem) (ht : ∀ i, i < 16 ∨ 19 < i → t i = zem.1 0 i) : zFm z (zk_row zem 0 t) :=
  ⟨fun j h1 h2 h3 h4 => by rw [zk_row_off (by omega)]; exact h.1 j h1 h2 h3 h4, fun j hj => by rw [zk_row_on, ht j (by omega)]; exact h.2.1 j hj, h.2.2⟩
def Cu (N s tk v : Nat) (mem zem : zkM) : Prop := (∃ e, e ≤ N ∧ mem.1 1 2 = jN e ∧ zem.1 0 16 = jN e) ∧ mem.1 1 3 = jN s ∧ mem.1 1 4 = jN tk ∧ (tk = 1 → mem.1 1 5 = jN v) ∧ zem.1 0 17 = jN s ∧ zem.1 0 18 = jN (mk tk) ∧ (tk = 1 → zem.1 0 19 = jN v) ∧ (mk tk = 1 → zem.1 0 19 = jN tk) ∧ s ≤ N ∧ (tk = 0 ∨ tk = 1 ∨ tk = 2 ∨ tk = 59 ∨ tk = 98 ∨ tk = 99 ∨ tk = 112) ∧ (tk = 1 → v ≤ 99)
def ToX (T : Nat → Nat → Nat) (mem : zkM) : Prop := mem.1 55 0 = jN (T 0 0) ∧ mem.1 55 1 = jN (T 0 1) ∧ mem.1 55 2 = jN (T 0 2) ∧ (∀ b, b < T 0 0 → mem.1 56 b = jN (T 1 b) ∧ mem.1 57 b = jN (T 2 b) ∧ mem.1 58 b = jN (T 3 b)) ∧ (∀ p, p < T 0 1 → mem.1 60 (2 * p) = jN (T 4 p) ∧ mem.1 60 (2 * p + 1) = jN (T 5 p) ∧ mem.1 59 p = jN (T 6 p) ∧ mem.1 61 (2 * p) = jN (T 9 p) ∧ mem.1 61 (2 * p + 1) = jN (T 10 p)) ∧ ∀ c, c < T 0 2 → mem.1 62 c = jN (T 7 c) ∧ mem.1 63 c = jN (T 8 c)
def ToM (T : Nat → Nat → Nat) (zem : zkM) : Prop := zem.1 0 21 = jN (T 0 0) ∧ zem.1 0 23 = jN (T 0 1) ∧ zem.1 0 25 = jN (T 0 2) ∧ (∀ b, b < T 0 0 → zem.1 10 (3 * b) = jN (T 1 b) ∧ zem.1 10 (3 * b + 1) = jN (T 2 b) ∧ zem.1 10 (3 * b + 2) = jN (T 3 b)) ∧ (∀ p, p < T 0 1 → zem.1 11 (5 * p) = jN (T 4 p) ∧ zem.1 11 (5 * p + 1) = jN (T 5 p) ∧ zem.1 11 (5 * p + 2) = jN (T 6 p) ∧ zem.1 11 (5 * p + 3) = jN (T 9 p) ∧ zem.1 11 (5 * p + 4) = jN (T 10 p)) ∧ ∀ c, c < T 0 2 → zem.1 12 (2 * c) = jN (T 7 c) ∧ zem.1 12 (2 * c + 1) = jN (T 8 c)
def ToB (T : Nat → Nat → Nat) : Prop := zTb T ∧ ∀ p, p < T 0 1 → T 9 p ≤ 3 ∧ T 10 p ≤ 3
theorem ToX.congr {T : Nat → Nat → Nat} {mem mem' : zkM} (h : ToX T mem) (hk : ∀ k, 55 ≤ k → mem'.1 k = mem.1 k) : ToX T mem' := by
  unfold ToX at h ⊢
  rw [hk 55 (by omega), hk 56 (by omega), hk 57 (by omega), hk 58 (by omega), hk 59 (by omega), hk 60 (by omega), hk 61 (by omega), hk 62 (by omega), hk 63 (by omega)]
  exact h
theorem ToM.congr {T : Nat → Nat → Nat} {zem zem' : zkM} (h : ToM T zem) (h10 : zem'.1 10 = zem.1 10) (h11 : zem'.1 11 = zem.1 11) (h12 : zem'.1 12 = zem.1 12) (h0 : ∀ i, 20 < i → zem'.1 0 i = zem.1 0 i) : ToM T zem' := by
  unfold ToM at h ⊢
  rw [h10, h11, h12, h0 21 (by omega), h0 23 (by omega), h0 25 (by omega)]
  exact h
theorem ToM.p10 {T : Nat → Nat → Nat} {zem : zkM} {k : Nat} {x : Int32} (h : ToM T zem) (hk : 3 * T 0 0 ≤ k) : ToM T (zk_u zem 10 k x) := by
  refine ⟨h.1, h.2.1, h.2.2.1, fun b hb => ?_, h.2.2.2.2.1, h.2.2.2.2.2⟩
  rw [zk_u_ne (by omega), zk_u_ne (by omega), zk_u_ne (by omega)]
  exact h.2.2.2.1 b hb
theorem ToM.p11 {T : Nat → Nat → Nat} {zem : zkM} {k : Nat} {x : Int32} (h : ToM T zem) (hk : 5 * T 0 1 ≤ k) : ToM T (zk_u zem 11 k x) := by
  refine ⟨h.1, h.2.1, h.2.2.1, h.2.2.2.1, fun b hb => ?_, h.2.2.2.2.2⟩
  rw [zk_u_ne (by omega), zk_u_ne (by omega), zk_u_ne (by omega), zk_u_ne (by omega), zk_u_ne (by omega)]
  exact h.2.2.2.2.1 b hb
theorem ToM.p12 {T : Nat → Nat → Nat} {zem : zkM} {k : Nat} {x : Int32} (h : ToM T zem) (hk : 2 * T 0 2 ≤ k) : ToM T (zk_u zem 12 k x) := by
  refine ⟨h.1, h.2.1, h.2.2.1, h.2.2.2.1, h.2.2.2.2.1, fun b hb => ?_⟩
  rw [zk_u_ne (by omega), zk_u_ne (by omega)]
  exact h.2.2.2.2.2 b hb
/-- the texts agree -/
def Tx (L : Nat → Nat) (N : Nat) (y z : zkM) : Prop := y.1 1 1 = jN N ∧ z.1 0 15 = jN N ∧ zLt L N (y.1 2) ∧ zLt L N (z.1 9)
def Ph (L : Nat → Nat) (N : Nat) (T : Nat → Nat → Nat) (y z mem zem : zkM) (s tk v : Nat) : Prop := zFc y mem ∧ zFm z zem ∧ ToX T mem ∧ ToM T zem ∧ zem.1 0 20 = jN 0 ∧ Cu N s tk v mem zem
/-- both read on -/
theorem adv {L : Nat → Nat} {N e : Nat} {T : Nat → Nat → Nat} {y z mem zem : zkM} (ht : Tx L N y z) (hc : zFc y mem) (hm : zFm z zem) (hX : ToX T mem) (hM : ToM T zem) (h20 : zem.1 0 20 = jN 0) (he : e ≤ N) (h2 : mem.1 1 2 = jN e) (h16 : zem.1 0 16 = jN e) : ∃ r t s tk v, fScript_step mem = some (zk_row mem 1 r) ∧ fMd_next zem = some (zk_row zem 0 t) ∧ Ph L N T y z (zk_row mem 1 r) (zk_row zem 0 t) s tk v ∧ (∀ i, 19 < i → t i = zem.1 0 i) := by
  obtain ⟨x1, x2, x3, x4⟩ := ht
  obtain ⟨s, e', tk, v, hT⟩ := Tk_ex (L := L) he
  have e1 : mem.1 1 1 = jN N := hc.2.1.trans x1
  have e15 : zem.1 0 15 = jN N := (hm.2.1 15 (by omega)).trans x2
  have hL1 : zLt L N (mem.1 2) := by rw [hc.1 2 (by omega) (by omega) (by omega)]; exact x3
  have hL2 : zLt L N (zem.1 9) := by rw [hm.1 9 (by omega) (by omega) (by omega) (by omega)]; exact x4
  obtain ⟨r, f1, f2, f3, f4, f5, f6⟩ := stepX (mem := mem) (r := mem.1 1) e1 h2 hL1 hT
  obtain ⟨t, g1, g2, g3, g4, g5, g6, g7⟩ := nextM (zem := zem) (t := zem.1 0) e15 h16 hL2 hT
  rw [zk_row_self] at f1 g1
  obtain ⟨k1, k2, k3, k4, k5⟩ := Tk_tk hT
  refine ⟨r, t, s, tk, v, f1, g1, ⟨hc.row1 (f2.trans e1.symm), hm.row0 g2, hX.congr (fun k hk => zk_row_off (by omega)), hM.congr rfl rfl rfl (fun i hi => by rw [zk_row_on]; exact g2 i (by omega)), by rw [zk_row_on, g2 20 (by omega)]; exact h20, ⟨e', k3, by rw [zk_row_on]; exact f3, by rw [zk_row_on]; exact g3⟩, by rw [zk_row_on]; exact f4, by rw [zk_row_on]; exact f5, by rw [zk_row_on]; exact f6, by rw [zk_row_on]; exact g4, by rw [zk_row_on]; exact g5, by rw [zk_row_on]; exact g6, by rw [zk_row_on]; exact g7, k2, k4, k5⟩, fun i hi => g2 i (by omega)⟩
theorem adv0 {L : Nat → Nat} {N e : Nat} {y z mem zem : zkM} (ht : Tx L N y z) (hc : zFc y mem) (hm : zFm z zem) (he : e ≤ N) (h2 : mem.1 1 2 = jN e) (h16 : zem.1 0 16 = jN e) : ∃ r t s tk v, fScript_step mem = some (zk_row mem 1 r) ∧ fMd_next zem = some (zk_row zem 0 t) ∧ zFc y (zk_row mem 1 r) ∧ zFm z (zk_row zem 0 t) ∧ Cu N s tk v (zk_row mem 1 r) (zk_row zem 0 t) ∧ (∀ i, 19 < i → t i = zem.1 0 i) := by
  obtain ⟨x1, x2, x3, x4⟩ := ht
  obtain ⟨s, e', tk, v, hT⟩ := Tk_ex (L := L) he
  have e1 : mem.1 1 1 = jN N := hc.2.1.trans x1
  have e15 : zem.1 0 15 = jN N := (hm.2.1 15 (by omega)).trans x2
  have hL1 : zLt L N (mem.1 2) := by rw [hc.1 2 (by omega) (by omega) (by omega)]; exact x3
  have hL2 : zLt L N (zem.1 9) := by rw [hm.1 9 (by omega) (by omega) (by omega) (by omega)]; exact x4
  obtain ⟨r, f1, f2, f3, f4, f5, f6⟩ := stepX (mem := mem) (r := mem.1 1) e1 h2 hL1 hT
  obtain ⟨t, g1, g2, g3, g4, g5, g6, g7⟩ := nextM (zem := zem) (t := zem.1 0) e15 h16 hL2 hT
  rw [zk_row_self] at f1 g1
  obtain ⟨k1, k2, k3, k4, k5⟩ := Tk_tk hT
  refine ⟨r, t, s, tk, v, f1, g1, hc.row1 (f2.trans e1.symm), hm.row0 g2, ⟨⟨e', k3, by rw [zk_row_on]; exact f3, by rw [zk_row_on]; exact g3⟩, by rw [zk_row_on]; exact f4, by rw [zk_row_on]; exact f5, by rw [zk_row_on]; exact f6, by rw [zk_row_on]; exact g4, by rw [zk_row_on]; exact g5, by rw [zk_row_on]; exact g6, by rw [zk_row_on]; exact g7, k2, k4, k5⟩, fun i hi => g2 i (by omega)⟩
/-! must, readInto -/
theorem mustT {zem zem' : zkM} (h20 : zem.1 0 20 = jN 0) (hn : fMd_next zem = some zem') : fMd_must zem true = some zem' := by
  have e : zk_u zem 0 20 (jN 0) = zem := zk_u_self h20
  unfold fMd_must
  rw [k0, h20, if_pos rfl, if_neg (by decide)]
  simp only [zk_let, show zk_b false = jN 0 by decide, e, h20, if_true, hn, Option.bind_some]
theorem mustF {zem : zkM} (h20 : zem.1 0 20 = jN 0) : fMd_must zem false = some (zk_u zem 0 20 (jN 1)) := by
  unfold fMd_must
  rw [k0, h20, if_pos rfl, if_pos (by decide)]
  simp only [zk_let, show zk_b true = jN 1 by decide, zk_u_at]
  rw [if_neg (by decide)]
theorem mustW {zem : zkM} {b : Bool} (h20 : zem.1 0 20 = jN 1) : fMd_must zem b = some zem := by
  have e : zk_u zem 0 20 (jN 1) = zem := zk_u_self h20
  unfold fMd_must
  rw [k0, h20, if_neg (by decide)]
  simp only [zk_let, show zk_b true = jN 1 by decide, e, h20]
  rw [if_neg (by decide)]
theorem rT10 {zem zem' : zkM} {k v : Nat} {lo hi : Int32} (h20 : zem.1 0 20 = jN 0) (h18 : zem.1 0 18 = jN 2) (h19 : zem.1 0 19 = jN v) (hin : fMd_in (jN v) lo hi = true) (hn : fMd_next zem = some zem') (h20' : zem'.1 0 20 = jN 0) (hk : k < 24) : fMd_readInto_10 zem (jN k) lo hi = some (jN v, zk_u zem' 10 k (jN v)) := by
  unfold fMd_readInto_10
  simp only [zk_let, h18, h19, hin, k2, k0, zbF, Bool.true_eq_false, if_true, if_false, mustT h20 hn, Option.bind_some, h20']
  simp (disch := omega) only [jN_inbT, jN_clamp, cond_true]
theorem rF10 {zem : zkM} {k : Int32} {lo hi : Int32} (h20 : zem.1 0 20 = jN 0) (h : ¬ (zem.1 0 18 = jN 2 ∧ fMd_in (zem.1 0 19) lo hi = true)) : fMd_readInto_10 zem k lo hi = some (zem.1 0 19, zk_u zem 0 20 (jN 1)) := by
  have e : (if zem.1 0 18 = jN 2 then (if fMd_in (zem.1 0 19) lo hi = false then false else true) else false) = false := by
    by_cases c : zem.1 0 18 = jN 2
    · rw [if_pos c]
      cases e9 : fMd_in (zem.1 0 19) lo hi
      · rfl
      · exact absurd ⟨c, e9⟩ h
    · rw [if_neg c]
  unfold fMd_readInto_10
  simp only [zk_let, k2, k0, zbF, e, mustF h20, Option.bind_some, zk_u_at]
  rw [if_neg (by decide)]
theorem rW10 {zem : zkM} {k : Int32} {lo hi : Int32} (h20 : zem.1 0 20 = jN 1) : fMd_readInto_10 zem k lo hi = some (zem.1 0 19, zem) := by
  unfold fMd_readInto_10
  simp only [zk_let, mustW h20, Option.bind_some, h20, k0]
  rw [if_neg (by decide)]
theorem rT11 {zem zem' : zkM} {k v : Nat} {lo hi : Int32} (h20 : zem.1 0 20 = jN 0) (h18 : zem.1 0 18 = jN 2) (h19 : zem.1 0 19 = jN v) (hin : fMd_in (jN v) lo hi = true) (hn : fMd_next zem = some zem') (h20' : zem'.1 0 20 = jN 0) (hk : k < 30) : fMd_readInto_11 zem (jN k) lo hi = some (jN v, zk_u zem' 11 k (jN v)) := by
  unfold fMd_readInto_11
  simp only [zk_let, h18, h19, hin, k2, k0, zbF, Bool.true_eq_false, if_true, if_false, mustT h20 hn, Option.bind_some, h20']
  simp (disch := omega) only [jN_inbT, jN_clamp, cond_true]
theorem rF11 {zem : zkM} {k : Int32} {lo hi : Int32} (h20 : zem.1 0 20 = jN 0) (h : ¬ (zem.1 0 18 = jN 2 ∧ fMd_in (zem.1 0 19) lo hi = true)) : fMd_readInto_11 zem k lo hi = some (zem.1 0 19, zk_u zem 0 20 (jN 1)) := by
  have e : (if zem.1 0 18 = jN 2 then (if fMd_in (zem.1 0 19) lo hi = false then false else true) else false) = false := by
    by_cases c : zem.1 0 18 = jN 2
    · rw [if_pos c]
      cases e9 : fMd_in (zem.1 0 19) lo hi
      · rfl
      · exact absurd ⟨c, e9⟩ h
    · rw [if_neg c]
  unfold fMd_readInto_11
  simp only [zk_let, k2, k0, zbF, e, mustF h20, Option.bind_some, zk_u_at]
  rw [if_neg (by decide)]
theorem rW11 {zem : zkM} {k : Int32} {lo hi : Int32} (h20 : zem.1 0 20 = jN 1) : fMd_readInto_11 zem k lo hi = some (zem.1 0 19, zem) := by
  unfold fMd_readInto_11
  simp only [zk_let, mustW h20, Option.bind_some, h20, k0]
  rw [if_neg (by decide)]
theorem rT12 {zem zem' : zkM} {k v : Nat} {lo hi : Int32} (h20 : zem.1 0 20 = jN 0) (h18 : zem.1 0 18 = jN 2) (h19 : zem.1 0 19 = jN v) (hin : fMd_in (jN v) lo hi = true) (hn : fMd_next zem = some zem') (h20' : zem'.1 0 20 = jN 0) (hk : k < 10) : fMd_readInto_12 zem (jN k) lo hi = some (jN v, zk_u zem' 12 k (jN v)) := by
  unfold fMd_readInto_12
  simp only [zk_let, h18, h19, hin, k2, k0, zbF, Bool.true_eq_false, if_true, if_false, mustT h20 hn, Option.bind_some, h20']
  simp (disch := omega) only [jN_inbT, jN_clamp, cond_true]
theorem rF12 {zem : zkM} {k : Int32} {lo hi : Int32} (h20 : zem.1 0 20 = jN 0) (h : ¬ (zem.1 0 18 = jN 2 ∧ fMd_in (zem.1 0 19) lo hi = true)) : fMd_readInto_12 zem k lo hi = some (zem.1 0 19, zk_u zem 0 20 (jN 1)) := by
  have e : (if zem.1 0 18 = jN 2 then (if fMd_in (zem.1 0 19) lo hi = false then false else true) else false) = false := by
    by_cases c : zem.1 0 18 = jN 2
    · rw [if_pos c]
      cases e9 : fMd_in (zem.1 0 19) lo hi
      · rfl
      · exact absurd ⟨c, e9⟩ h
    · rw [if_neg c]
  unfold fMd_readInto_12
  simp only [zk_let, k2, k0, zbF, e, mustF h20, Option.bind_some, zk_u_at]
  rw [if_neg (by decide)]
theorem rW12 {zem : zkM} {k : Int32} {lo hi : Int32} (h20 : zem.1 0 20 = jN 1) : fMd_readInto_12 zem k lo hi = some (zem.1 0 19, zem) := by
  unfold fMd_readInto_12
  simp only [zk_let, mustW h20, Option.bind_some, h20, k0]
  rw [if_neg (by decide)]
/-! the class's number -/
theorem l17T {n m i v cn : Nat} {mem q : zkM} (hs : fScript_step mem = some q) (hcn : fScript_numbersOf (jN m) = jN cn) (hi : i < cn) (hc5 : cn ≤ 5) (h4 : q.1 1 4 = jN 1) (h5 : q.1 1 5 = jN v) (hst : fScript_mayStand q (jN m) (jN i) = some true) : fScript_readItem_L17 (n + 1) mem (jN m) (jN i) = fScript_readItem_L17 n (zk_u q 3 i (jN v)) (jN m) (jN (i + 1)) := by
  simp only [fScript_readItem_L17, hcn, hs, Option.bind_some, h4, h5, hst]
  simp (disch := omega) only [zk_let, Option.bind_some, cond_true, cond_false, if_true, if_false, zbF, zbT, within_in, jn9, k0, k1, k2, k3, k4, k5, k6, k7, k8, k9, k10, k12, k16, k17, k20, k29, k30, k31, k32, k36, k40, k41, k42, k48, k57, k59, k60, k64, k98, k99, k100, k112, k128, k200, k255, k256, k378, k420, k999, k1000000, jN_add, jN_mul, jN_clamp, jN_inbT, Bool.false_eq_true, Bool.true_eq_false, jN_le]
  rw [if_neg (by omega)]
theorem l17F {n m i tk cn : Nat} {mem q : zkM} (hs : fScript_step mem = some q) (hcn : fScript_numbersOf (jN m) = jN cn) (hi : i < cn) (hc5 : cn ≤ 5) (h4 : q.1 1 4 = jN tk) (htk : tk < 1000) (h : tk = 1 → fScript_mayStand q (jN m) (jN i) = some false) : fScript_readItem_L17 (n + 1) mem (jN m) (jN i) = some (.inl (false, q)) := by
  simp only [fScript_readItem_L17, hcn, hs, Option.bind_some, h4, k1, jN_le (show cn < 2147483648 by omega) (show i < 2147483648 by omega)]
  rw [if_neg (by omega)]
  by_cases c : tk = 1
  · subst c
    rw [if_pos rfl, h rfl]
    simp only [zk_let, Option.bind_some, cond_true, cond_false, if_true, if_false, zbF, zbT, within_in, jn9, k0, k1, k2, k3, k4, k5, k6, k7, k8, k9, k10, k12, k16, k17, k20, k29, k30, k31, k32, k36, k40, k41, k42, k48, k57, k59, k60, k64, k98, k99, k100, k112, k128, k200, k255, k256, k378, k420, k999, k1000000, jN_add, jN_mul, jN_clamp, jN_inbT, Bool.false_eq_true, Bool.true_eq_false]
  · rw [if_neg (by rw [jN_eq (by omega) (by omega)]; exact c)]
theorem l17E {n m cn : Nat} {mem : zkM} (hcn : fScript_numbersOf (jN m) = jN cn) : fScript_readItem_L17 (n + 1) mem (jN m) (jN cn) = some (.inr mem) := by
  simp only [fScript_readItem_L17, hcn]
  rw [if_pos (Int32.le_refl _)]
theorem nof98 : fScript_numbersOf (jN 98) = jN 3 := by decide
theorem nof99 : fScript_numbersOf (jN 99) = jN 2 := by decide
theorem nof112 : fScript_numbersOf (jN 112) = jN 5 := by decide
def rlo (m i : Nat) : Nat := if m = 98 then (if i = 1 then 1 else 0) else if m = 99 then (if i = 0 then 1 else 0) else (if i = 2 then 1 else 0)
def rhi (m i : Nat) : Nat := if m = 98 then (if i = 0 then 20 else if i = 1 then 60 else 3) else if m = 99 then 9 else (if i < 2 then 7 else if i = 2 then 40 else 3)
theorem stt98 : ∀ i, i < 3 → (zk_stt.getD 0 ("", [])).2.getD i 0 = jN (rlo 98 i) ∧ (zk_stt.getD 1 ("", [])).2.getD i 0 = jN (rhi 98 i) ∧ rlo 98 i ≤ 1 ∧ rhi 98 i ≤ 60 := by decide
theorem stt99 : ∀ i, i < 2 → (zk_stt.getD 4 ("", [])).2.getD i 0 = jN (rlo 99 i) ∧ (zk_stt.getD 5 ("", [])).2.getD i 0 = jN (rhi 99 i) ∧ rlo 99 i ≤ 1 ∧ rhi 99 i ≤ 60 := by decide
theorem stt112 : ∀ i, i < 5 → (zk_stt.getD 2 ("", [])).2.getD i 0 = jN (rlo 112 i) ∧ (zk_stt.getD 3 ("", [])).2.getD i 0 = jN (rhi 112 i) ∧ rlo 112 i ≤ 1 ∧ rhi 112 i ≤ 60 := by decide
theorem stand98 {q : zkM} {i v : Nat} (hi : i < 3) (h5 : q.1 1 5 = jN v) (hv : v ≤ 99) : fScript_mayStand q (jN 98) (jN i) = some (decide (rlo 98 i ≤ v ∧ v ≤ rhi 98 i)) := by
  obtain ⟨a1, a2, a3, a4⟩ := stt98 i hi
  unfold fScript_mayStand
  rw [k98, if_pos rfl]
  simp (disch := omega) only [jN_inbT, jN_clamp, cond_true, a1, a2, h5, within_in, in_jN]
theorem stand99 {q : zkM} {i v : Nat} (hi : i < 2) (h5 : q.1 1 5 = jN v) (hv : v ≤ 99) : fScript_mayStand q (jN 99) (jN i) = some (decide (rlo 99 i ≤ v ∧ v ≤ rhi 99 i)) := by
  obtain ⟨a1, a2, a3, a4⟩ := stt99 i hi
  unfold fScript_mayStand
  rw [k98, k99, if_neg (by decide), if_pos rfl]
  simp (disch := omega) only [jN_inbT, jN_clamp, cond_true, a1, a2, h5, within_in, in_jN]
theorem stand112 {q : zkM} {i v : Nat} (h2 : 2 ≤ i) (hi : i < 5) (h5 : q.1 1 5 = jN v) (hv : v ≤ 99) : fScript_mayStand q (jN 112) (jN i) = some (decide (rlo 112 i ≤ v ∧ v ≤ rhi 112 i)) := by
  obtain ⟨a1, a2, a3, a4⟩ := stt112 i hi
  unfold fScript_mayStand
  rw [k98, k99, k112, if_neg (by decide), if_neg (by decide), if_pos rfl]
  simp (disch := omega) only [jN_inbT, jN_clamp, cond_true, a1, a2, h5, within_in, in_jN]
  simp (disch := omega) only [k0, k1, zbF, jN_lt]
  by_cases c : rlo 112 i ≤ v ∧ v ≤ rhi 112 i
  · rw [decide_eq_true c, if_neg (by decide), if_pos (by omega)]
  · rw [decide_eq_false c, if_pos rfl]
theorem in_K {v K : Nat} (hv : v < 1000) (hK : K ≤ 1000) : fMd_in (jN v) (jN 0) (jN K - jN 1) = decide (v < K) := by
  rcases in_lt (jN v) (K := K) hK with ⟨h, n, h1, h2⟩ | ⟨h, h1⟩
  · rw [h]
    rw [jN_eq (by omega) (by omega)] at h2
    rw [decide_eq_true (by omega)]
  · rw [h]
    have : ¬ v < K := fun c => h1 v c rfl
    rw [decide_eq_false this]
theorem stand112a {T : Nat → Nat → Nat} {q : zkM} {v : Nat} (hT : zTb T) (hX : ToX T q) (h5 : q.1 1 5 = jN v) (hv : v ≤ 99) : fScript_mayStand q (jN 112) (jN 0) = some (decide (v < T 0 0)) := by
  have t1 := hT.1
  obtain ⟨a1, a2, a3, a4⟩ := stt112 0 (by omega)
  unfold fScript_mayStand fScript_mayBeUnder
  rw [k98, k99, k112, if_neg (by decide), if_neg (by decide), if_pos rfl]
  simp (disch := omega) only [jN_inbT, jN_clamp, cond_true, a1, a2, h5, within_in, in_jN]
  simp (disch := omega) only [k0, k1, zbF, jN_lt, hX.1, if_true, Option.bind_some]
  have r1 : rlo 112 0 = 0 := rfl
  have r2 : rhi 112 0 = 7 := rfl
  rw [r1, r2]
  by_cases c : v < T 0 0
  · rw [decide_eq_true (show 0 ≤ v ∧ v ≤ 7 by omega), if_neg (by decide), if_neg (by omega), if_pos c, decide_eq_true c]; rfl
  · by_cases c2 : 0 ≤ v ∧ v ≤ 7
    · rw [decide_eq_true c2, if_neg (by decide), if_neg (by omega), if_neg c, decide_eq_false c]; rfl
    · rw [decide_eq_false c2, if_pos rfl, decide_eq_false c]
theorem far_all : ∀ x, x < 21 → ∀ w, w < 21 → decide (zk_abs (jN x - jN w) ≤ jN 2) = fMd_in (jN x - jN w) (-jN 2) (jN 2) := by decide +kernel
/-- whether BOUGHS a and b may be joined -/
def near (T : Nat → Nat → Nat) (a b : Nat) : Bool := decide (b < T 0 0) && (decide (a ≠ b) && fMd_in (jN (T 1 a) - jN (T 1 b)) (-jN 2) (jN 2))
theorem stand112b {T : Nat → Nat → Nat} {q : zkM} {v a : Nat} (hT : zTb T) (hX : ToX T q) (h5 : q.1 1 5 = jN v) (hv : v ≤ 99) (h3 : q.1 3 0 = jN a) (ha : a < T 0 0) : fScript_mayStand q (jN 112) (jN 1) = some (near T a v) := by
  obtain ⟨t1, t2, t3, t4, t5, t6⟩ := id hT
  obtain ⟨a1, a2, a3, a4⟩ := stt112 1 (by omega)
  unfold fScript_mayStand fScript_mayBeUnder fTree_farApart near
  rw [k98, k99, k112, if_neg (by decide), if_neg (by decide), if_pos rfl]
  simp (disch := omega) only [jN_inbT, jN_clamp, cond_true, a1, a2, h5, within_in, in_jN]
  simp (disch := omega) only [jN_inbT, jN_clamp, cond_true, h3, k0, k1, k2, zbF, jN_lt, jN_eq, hX.1]
  have r1 : rlo 112 1 = 0 := rfl
  have r2 : rhi 112 1 = 7 := rfl
  rw [r1, r2]
  by_cases c : v < T 0 0
  · have b1 := t4 a ha
    have b2 := t4 v c
    have hf := far_all (T 1 a) (by omega) (T 1 v) (by omega)
    rw [decide_eq_true (show 0 ≤ v ∧ v ≤ 7 by omega), if_neg (by decide), if_neg (by omega), if_pos c, decide_eq_true c, if_neg (by omega)]
    simp only [(hX.2.2.2.1 a ha).1, (hX.2.2.2.1 v c).1, Bool.true_and]
    by_cases c3 : v = a
    · rw [if_pos c3, decide_eq_false (show ¬ a ≠ v from fun h => h c3.symm)]; rfl
    · rw [if_neg c3, decide_eq_true (show a ≠ v from fun h => c3 h.symm), ← hf]
      by_cases c4 : zk_abs (jN (T 1 a) - jN (T 1 v)) ≤ jN 2
      · rw [if_pos c4, decide_eq_true c4]; rfl
      · rw [if_neg c4, decide_eq_false c4]; rfl
  · rw [decide_eq_false c, Bool.false_and]
    by_cases c2 : 0 ≤ v ∧ v ≤ 7
    · rw [decide_eq_true c2, if_neg (by decide), if_neg (by omega), if_neg c]; rfl
    · rw [decide_eq_false c2, if_pos rfl]
/-- how an ITEM ends: both fail at the same place, or both take it -/
def Fail (N : Nat) (y z mem zem : zkM) : Prop := ∃ mem' zem' s, fScript_readItem mem = some (false, mem') ∧ fMd_readItem zem = some zem' ∧ zFc y mem' ∧ zFm z zem' ∧ mem'.1 1 3 = jN s ∧ zem'.1 0 17 = jN s ∧ zem'.1 0 20 = jN 1 ∧ s ≤ N
def Good (L : Nat → Nat) (N : Nat) (T : Nat → Nat → Nat) (y z mem zem : zkM) : Prop := ∃ mem' mem'' zem' T' s tk v, fScript_readItem mem = some (true, mem') ∧ fScript_step mem' = some mem'' ∧ fMd_readItem zem = some zem' ∧ ToB T' ∧ Ph L N T' y z mem'' zem' s tk v ∧ T' 0 0 + T' 0 1 + T' 0 2 = T 0 0 + T 0 1 + T 0 2 + 1
