/-! THE RELATION of the class's memory y and the model's memory z -/
/-- at what WEAR an END of a kind gives (a LOOSE one never: any bound) -/
def zGv (k : Nat) : Nat := if k = 1 then 12 else if k = 2 then 20 else 36
/-- a row of the class's scene and a row of the model's st -/
def zRow (NP NC : Nat) (r t : Nat → Int32) : Prop :=
  (r 41 = t 0 ∧ ∃ g : Nat, g ≤ 999 ∧ t 0 = iI g) ∧
  (∀ c, c < NC → r c = t (1 + c) ∧ (t (1 + c) = iI (-9) ∨ ∃ p : Nat, p < NP ∧ t (1 + c) = iI p)) ∧
  ∀ e, e < 2 * NP → r (5 + e) = t (6 + 3 * e) ∧ r (17 + e) = t (7 + 3 * e) ∧ r (29 + e) = t (8 + 3 * e) ∧
    ∃ k w o : Nat, t (6 + 3 * e) = iI k ∧ k ≤ 3 ∧ t (7 + 3 * e) = iI w ∧ w < 64 ∧ t (8 + 3 * e) = iI o ∧ o ≤ 1 ∧ (o = 0 → w < zGv k)
/-- what the tree is -/
def zTree (NB NP NC : Nat) (s t : Nat → Nat → Int32) : Prop :=
  (NB ≤ 8 ∧ NP ≤ 6 ∧ NC ≤ 5) ∧ (s 46 0 = iI NB ∧ t 0 0 = iI NB) ∧ (s 46 1 = iI NP ∧ t 0 2 = iI NP) ∧ (s 46 2 = iI NC ∧ t 0 4 = iI NC) ∧
  (∀ b, b < NB → ∃ h g w : Nat, s 47 b = iI h ∧ t 1 (3 * b) = iI h ∧ h ≤ 20 ∧ s 48 b = iI g ∧ t 1 (3 * b + 1) = iI g ∧ 1 ≤ g ∧ g ≤ 60 ∧ s 49 b = iI w ∧ t 1 (3 * b + 2) = iI w ∧ w ≤ 3) ∧
  (∀ p, p < NP → ∃ a b h : Nat, s 51 (2 * p) = iI a ∧ t 2 (3 * p) = iI a ∧ a < NB ∧ s 51 (2 * p + 1) = iI b ∧ t 2 (3 * p + 1) = iI b ∧ b < NB ∧ s 50 p = iI h ∧ t 2 (3 * p + 2) = iI h ∧ 1 ≤ h ∧ h ≤ 40) ∧
  (∀ c, c < NC → ∃ w d : Nat, s 53 c = iI w ∧ t 3 (2 * c) = iI w ∧ 1 ≤ w ∧ w ≤ 9 ∧ s 54 c = iI d ∧ t 3 (2 * c + 1) = iI d ∧ d ≤ 9)
def zPast (NP NC : Nat) (s t : Nat → Nat → Int32) : Prop := ∃ K nx : Nat, K ≤ 10 ∧ nx < 10 ∧ s 9 1 = iI K ∧ t 0 8 = iI K ∧ s 9 2 = iI nx ∧ ∀ j, j < K → zRow NP NC (s (11 + (nx + 10 - K + j) % 10)) (fun i => t 5 (42 * j + i))
def zAlbum (NP NC : Nat) (s t : Nat → Nat → Int32) : Prop := ∀ m, m < 2 → s 25 m = t 7 m ∧ (t 7 m = iI 0 ∨ (t 7 m = iI 1 ∧ zRow NP NC (s (23 + m)) (fun i => t 6 (42 * m + i))))
def zRot (NP : Nat) (s t : Nat → Nat → Int32) : Prop := ∃ T : Nat, T ≤ 6 ∧ s 26 0 = iI T ∧ t 0 11 = iI T ∧ ∀ k, k < T → ∃ p l b : Nat, p < NP ∧ l ≤ 60 ∧ b ≤ 1 ∧ s 27 k = iI p ∧ t 8 (3 * k) = iI p ∧ s 28 k = iI l ∧ t 8 (3 * k + 1) = iI l ∧ s 29 k = iI b ∧ t 8 (3 * k + 2) = iI b
def zText (s t : Nat → Nat → Int32) : Prop := ∃ N : Nat, N ≤ 200 ∧ s 1 1 = iI N ∧ t 0 15 = iI N ∧ ∀ i, i < N → ∃ c : Nat, c ≤ 255 ∧ s 2 i = iI c ∧ t 9 i = iI c
def zRel (y z : zkM) : Prop := ∃ NB NP NC : Nat, zTree NB NP NC y.1 z.1 ∧ zRow NP NC (y.1 5) (z.1 4) ∧ zPast NP NC y.1 z.1 ∧ zAlbum NP NC y.1 z.1 ∧ zRot NP y.1 z.1 ∧ zText y.1 z.1 ∧ y.2 0 12 = z.2 0 13
theorem pr_init : zRel zX_mem zM_mem := by
  refine ⟨0, 0, 0, ⟨by decide, by decide, by decide, by decide, fun b h => by omega, fun b h => by omega, fun b h => by omega⟩, ⟨⟨by decide, 0, by omega, by decide⟩, fun c h => by omega, fun e h => by omega⟩, ⟨0, 0, by omega, by omega, by decide, by decide, by decide, fun j h => by omega⟩, fun m h => ?_, ⟨0, by omega, by decide, by decide, fun k h => by omega⟩, ⟨0, by omega, by decide, by decide, fun i h => by omega⟩, rfl⟩
  rcases (show m = 0 ∨ m = 1 by omega) with rfl | rfl
  · exact ⟨by decide, Or.inl (by decide)⟩
  · exact ⟨by decide, Or.inl (by decide)⟩
/-- the parts of the relation hang on rows of the memories alone -/
theorem zTree.congr {NB NP NC : Nat} {s t s' t' : Nat → Nat → Int32} (h : zTree NB NP NC s t) (h46 : s' 46 = s 46) (h47 : s' 47 = s 47) (h48 : s' 48 = s 48) (h49 : s' 49 = s 49) (h50 : s' 50 = s 50) (h51 : s' 51 = s 51) (h53 : s' 53 = s 53) (h54 : s' 54 = s 54) (g0 : t' 0 0 = t 0 0) (g2 : t' 0 2 = t 0 2) (g4 : t' 0 4 = t 0 4) (k1 : t' 1 = t 1) (k2 : t' 2 = t 2) (k3 : t' 3 = t 3) : zTree NB NP NC s' t' := by
  unfold zTree at h ⊢
  rw [h46, h47, h48, h49, h50, h51, h53, h54, g0, g2, g4, k1, k2, k3]
  exact h
theorem zPast.congr {NP NC : Nat} {s t s' t' : Nat → Nat → Int32} (h : zPast NP NC s t) (hr : ∀ k, 11 ≤ k → k < 21 → s' k = s k) (h1 : s' 9 1 = s 9 1) (h2 : s' 9 2 = s 9 2) (g8 : t' 0 8 = t 0 8) (k5 : t' 5 = t 5) : zPast NP NC s' t' := by
  obtain ⟨K, nx, a1, a2, a3, a4, a5, a6⟩ := h
  refine ⟨K, nx, a1, a2, h1.trans a3, g8.trans a4, h2.trans a5, fun j hj => ?_⟩
  rw [hr _ (by omega) (by have := Nat.mod_lt (nx + 10 - K + j) (show 0 < 10 by omega); omega), k5]
  exact a6 j hj
theorem zAlbum.congr {NP NC : Nat} {s t s' t' : Nat → Nat → Int32} (h : zAlbum NP NC s t) (h23 : s' 23 = s 23) (h24 : s' 24 = s 24) (h25 : s' 25 = s 25) (k6 : t' 6 = t 6) (k7 : t' 7 = t 7) : zAlbum NP NC s' t' := by
  intro m hm
  have := h m hm
  rcases (show m = 0 ∨ m = 1 by omega) with rfl | rfl
  · rw [h25, k7, k6, show 23 + 0 = 23 from rfl, h23]; exact this
  · rw [h25, k7, k6, show 23 + 1 = 24 from rfl, h24]; exact this
theorem zRot.congr {NP : Nat} {s t s' t' : Nat → Nat → Int32} (h : zRot NP s t) (h26 : s' 26 0 = s 26 0) (h27 : s' 27 = s 27) (h28 : s' 28 = s 28) (h29 : s' 29 = s 29) (g11 : t' 0 11 = t 0 11) (k8 : t' 8 = t 8) : zRot NP s' t' := by
  unfold zRot at h ⊢
  rw [h26, h27, h28, h29, g11, k8]; exact h
theorem zText.congr {s t s' t' : Nat → Nat → Int32} (h : zText s t) (h1 : s' 1 1 = s 1 1) (h2 : s' 2 = s 2) (g15 : t' 0 15 = t 0 15) (k9 : t' 9 = t 9) : zText s' t' := by
  unfold zText at h ⊢
  rw [h1, h2, g15, k9]; exact h
/-- the class's rows that count -/
def zRx (k : Nat) : Bool := k == 2 || k == 5 || (Nat.ble 11 k && Nat.blt k 21) || (Nat.ble 23 k && Nat.blt k 26) || (Nat.ble 27 k && Nat.blt k 30) || (Nat.ble 46 k && Nat.blt k 52) || k == 53 || k == 54
def zKx (y y' : zkM) : Prop := (∀ k, zRx k = true → y'.1 k = y.1 k) ∧ y'.1 1 1 = y.1 1 1 ∧ y'.1 9 1 = y.1 9 1 ∧ y'.1 9 2 = y.1 9 2 ∧ y'.1 26 0 = y.1 26 0 ∧ y'.2 0 12 = y.2 0 12
def zRm (k : Nat) : Bool := Nat.ble 1 k && Nat.blt k 10
def zKm (z z' : zkM) : Prop := (∀ k, zRm k = true → z'.1 k = z.1 k) ∧ z'.1 0 0 = z.1 0 0 ∧ z'.1 0 2 = z.1 0 2 ∧ z'.1 0 4 = z.1 0 4 ∧ z'.1 0 8 = z.1 0 8 ∧ z'.1 0 11 = z.1 0 11 ∧ z'.1 0 15 = z.1 0 15 ∧ z'.2 0 13 = z.2 0 13
theorem zKx.rf (y : zkM) : zKx y y := ⟨fun _ _ => rfl, rfl, rfl, rfl, rfl, rfl⟩
theorem zKm.rf (y : zkM) : zKm y y := ⟨fun _ _ => rfl, rfl, rfl, rfl, rfl, rfl, rfl, rfl⟩
theorem zKx.tr {a b c : zkM} (h : zKx a b) (g : zKx b c) : zKx a c := ⟨fun k hk => (g.1 k hk).trans (h.1 k hk), g.2.1.trans h.2.1, g.2.2.1.trans h.2.2.1, g.2.2.2.1.trans h.2.2.2.1, g.2.2.2.2.1.trans h.2.2.2.2.1, g.2.2.2.2.2.trans h.2.2.2.2.2⟩
theorem zKm.tr {a b c : zkM} (h : zKm a b) (g : zKm b c) : zKm a c := ⟨fun k hk => (g.1 k hk).trans (h.1 k hk), g.2.1.trans h.2.1, g.2.2.1.trans h.2.2.1, g.2.2.2.1.trans h.2.2.2.1, g.2.2.2.2.1.trans h.2.2.2.2.1, g.2.2.2.2.2.1.trans h.2.2.2.2.2.1, g.2.2.2.2.2.2.1.trans h.2.2.2.2.2.2.1, g.2.2.2.2.2.2.2.trans h.2.2.2.2.2.2.2⟩
/-- a write to a row that doesn't count -/
theorem zKx.u {y : zkM} {k i : Nat} {x : Int32} (h : zRx k = false) (h1 : k ≠ 1) (h9 : k ≠ 9) (h26 : k ≠ 26) : zKx y (zk_u y k i x) :=
  ⟨fun j hj => zk_u_off (fun e => by rw [e, h] at hj; cases hj), by rw [zk_u_off (fun e => h1 e.symm)], by rw [zk_u_off (fun e => h9 e.symm)], by rw [zk_u_off (fun e => h9 e.symm)], by rw [zk_u_off (fun e => h26 e.symm)], rfl⟩
theorem zKm.u {y : zkM} {k i : Nat} {x : Int32} (h : 10 ≤ k) : zKm y (zk_u y k i x) :=
  ⟨fun j hj => zk_u_off (fun e => by rw [e] at hj; unfold zRm at hj; rw [Bool.and_eq_true] at hj; have := Nat.le_of_ble_eq_true hj.2; omega), by rw [zk_u_off (by omega)], by rw [zk_u_off (by omega)], by rw [zk_u_off (by omega)], by rw [zk_u_off (by omega)], by rw [zk_u_off (by omega)], by rw [zk_u_off (by omega)], rfl⟩
theorem zKm.f {y : zkM} {i : Nat} {x : Int32} (h : 16 ≤ i) : zKm y (zk_u y 0 i x) :=
  ⟨fun j hj => zk_u_off (fun e => by rw [e] at hj; cases hj), by simp [zk_u]; omega, by simp [zk_u]; omega, by simp [zk_u]; omega, by simp [zk_u]; omega, by simp [zk_u]; omega, by simp [zk_u]; omega, rfl⟩
theorem zKx.ul {y : zkM} {k i : Nat} {x : Int64} (h : k ≠ 0) : zKx y (zk_ul y k i x) := ⟨fun _ _ => rfl, rfl, rfl, rfl, rfl, by rw [zk_ul_off (fun e => h e.symm)]⟩
theorem zKm.ul {y : zkM} {k i : Nat} {x : Int64} (h : k ≠ 0) : zKm y (zk_ul y k i x) := ⟨fun _ _ => rfl, rfl, rfl, rfl, rfl, rfl, rfl, by rw [zk_ul_off (fun e => h e.symm)]⟩
theorem zRel.same {y z y' z' : zkM} (h : zRel y z) (a : zKx y y') (b : zKm z z') : zRel y' z' := by
  obtain ⟨NB, NP, NC, hT, hR, hP, hA, hO, hX, hB⟩ := h
  refine ⟨NB, NP, NC, hT.congr (a.1 _ rfl) (a.1 _ rfl) (a.1 _ rfl) (a.1 _ rfl) (a.1 _ rfl) (a.1 _ rfl) (a.1 _ rfl) (a.1 _ rfl) b.2.1 b.2.2.1 b.2.2.2.1 (b.1 _ rfl) (b.1 _ rfl) (b.1 _ rfl), ?_, hP.congr (fun k h1 h2 => a.1 k ?_) a.2.2.1 a.2.2.2.1 b.2.2.2.2.1 (b.1 _ rfl), hA.congr (a.1 _ rfl) (a.1 _ rfl) (a.1 _ rfl) (b.1 _ rfl) (b.1 _ rfl), hO.congr a.2.2.2.2.1 (a.1 _ rfl) (a.1 _ rfl) (a.1 _ rfl) b.2.2.2.2.2.1 (b.1 _ rfl), hX.congr a.2.1 (a.1 _ rfl) b.2.2.2.2.2.2.1 (b.1 _ rfl), by rw [a.2.2.2.2.2, b.2.2.2.2.2.2.2]; exact hB⟩
  · rw [a.1 5 rfl, b.1 4 rfl]; exact hR
  · unfold zRx
    have e1 : Nat.ble 11 k = true := Nat.ble_eq_true_of_le h1
    have e2 : Nat.blt k 21 = true := Nat.ble_eq_true_of_le h2
    rw [e1, e2]
    simp
