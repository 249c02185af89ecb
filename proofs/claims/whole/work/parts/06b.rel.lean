/-! THE RELATION of the class's memory y and the model's memory z -/
/-- at what WEAR an END of a kind gives (a LOOSE one never: any bound) -/
def zGv (k : Nat) : Nat := if k = 1 then 12 else if k = 2 then 20 else 36
/-- a row of the class's scene and a row of the model's st -/
def zRow (NP NC : Nat) (r t : Nat → Int32) : Prop :=
  (r 41 = t 0 ∧ ∃ g : Nat, g ≤ 999 ∧ t 0 = iI g) ∧
  (∀ c, c < NC → r c = t (1 + c) ∧ (t (1 + c) = iI (-9) ∨ ∃ p : Nat, p < NP ∧ t (1 + c) = iI p)) ∧
  ∀ e, e < 2 * NP → r (5 + e) = t (6 + 3 * e) ∧ r (17 + e) = t (7 + 3 * e) ∧ r (29 + e) = t (8 + 3 * e) ∧
    ∃ k w o : Nat, t (6 + 3 * e) = iI k ∧ k ≤ 3 ∧ t (7 + 3 * e) = iI w ∧ w < 64 ∧ t (8 + 3 * e) = iI o ∧ o ≤ 1 ∧ (o = 0 → w < zGv k)
/-- what the tree is -/
def zTree (NB NP NC : Nat) (s t : Nat → Nat → Int32) : Prop :=
  (NB ≤ 8 ∧ NP ≤ 6 ∧ NC ≤ 5) ∧ (s 46 0 = iI NB ∧ t 0 0 = iI NB) ∧ (s 46 1 = iI NP ∧ t 0 2 = iI NP) ∧ (s 46 2 = iI NC ∧ t 0 4 = iI NC) ∧
  (∀ b, b < NB → ∃ h g w : Nat, s 47 b = iI h ∧ t 1 (3 * b) = iI h ∧ h ≤ 20 ∧ s 48 b = iI g ∧ t 1 (3 * b + 1) = iI g ∧ 1 ≤ g ∧ g ≤ 60 ∧ s 49 b = iI w ∧ t 1 (3 * b + 2) = iI w ∧ w ≤ 3) ∧
  (∀ p, p < NP → ∃ a b h : Nat, s 51 (2 * p) = iI a ∧ t 2 (3 * p) = iI a ∧ a < NB ∧ s 51 (2 * p + 1) = iI b ∧ t 2 (3 * p + 1) = iI b ∧ b < NB ∧ s 50 p = iI h ∧ t 2 (3 * p + 2) = iI h ∧ 1 ≤ h ∧ h ≤ 40) ∧
  (∀ c, c < NC → ∃ w d : Nat, s 53 c = iI w ∧ t 3 (2 * c) = iI w ∧ 1 ≤ w ∧ w ≤ 9 ∧ s 54 c = iI d ∧ t 3 (2 * c + 1) = iI d ∧ d ≤ 9)
def zPast (NP NC : Nat) (s t : Nat → Nat → Int32) : Prop := ∃ K nx : Nat, K ≤ 10 ∧ nx < 10 ∧ s 9 1 = iI K ∧ t 0 8 = iI K ∧ s 9 2 = iI nx ∧ ∀ j, j < K → zRow NP NC (s (11 + (nx + 10 - K + j) % 10)) (fun i => t 5 (42 * j + i))
def zAlbum (NP NC : Nat) (s t : Nat → Nat → Int32) : Prop := ∀ m, m < 2 → s 25 m = t 7 m ∧ (t 7 m = iI 0 ∨ (t 7 m = iI 1 ∧ zRow NP NC (s (23 + m)) (fun i => t 6 (42 * m + i))))
def zRot (NP : Nat) (s t : Nat → Nat → Int32) : Prop := ∃ T : Nat, T ≤ 6 ∧ s 26 0 = iI T ∧ t 0 11 = iI T ∧ ∀ k, k < T → ∃ p l b : Nat, p < NP ∧ l ≤ 60 ∧ b ≤ 1 ∧ s 27 k = iI p ∧ t 8 (3 * k) = iI p ∧ s 28 k = iI l ∧ t 8 (3 * k + 1) = iI l ∧ s 29 k = iI b ∧ t 8 (3 * k + 2) = iI b
def zText (s t : Nat → Nat → Int32) : Prop := ∃ N : Nat, N ≤ 200 ∧ s 1 1 = iI N ∧ t 0 15 = iI N ∧ ∀ i, i < N → ∃ c : Nat, c ≤ 255 ∧ s 2 i = iI c ∧ t 9 i = iI c
def zRel (y z : zkM) : Prop := ∃ NB NP NC : Nat, zTree NB NP NC y.1 z.1 ∧ zRow NP NC (y.1 5) (z.1 4) ∧ zPast NP NC y.1 z.1 ∧ zAlbum NP NC y.1 z.1 ∧ zRot NP y.1 z.1 ∧ zText y.1 z.1 ∧ y.2 0 12 = z.2 0 13
theorem pr_init : zRel zX_mem zM_mem := by
  refine ⟨0, 0, 0, ⟨by decide, by decide, by decide, by decide, fun b h => by omega, fun b h => by omega, fun b h => by omega⟩, ⟨⟨by decide, 0, by omega, by decide⟩, fun c h => by omega, fun e h => by omega⟩, ⟨0, 0, by omega, by omega, by decide, by decide, by decide, fun j h => by omega⟩, fun m h => ?_, ⟨0, by omega, by decide, by decide, fun k h => by omega⟩, ⟨0, by omega, by decide, by decide, fun i h => by omega⟩, rfl⟩
  rcases (show m = 0 ∨ m = 1 by omega) with rfl | rfl
  · exact ⟨by decide, Or.inl (by decide)⟩
  · exact ⟨by decide, Or.inl (by decide)⟩
/-- the parts of the relation hang on rows of the memories alone -/
theorem zTree.congr {NB NP NC : Nat} {s t s' t' : Nat → Nat → Int32} (h : zTree NB NP NC s t) (h46 : s' 46 = s 46) (h47 : s' 47 = s 47) (h48 : s' 48 = s 48) (h49 : s' 49 = s 49) (h50 : s' 50 = s 50) (h51 : s' 51 = s 51) (h53 : s' 53 = s 53) (h54 : s' 54 = s 54) (g0 : t' 0 0 = t 0 0) (g2 : t' 0 2 = t 0 2) (g4 : t' 0 4 = t 0 4) (k1 : t' 1 = t 1) (k2 : t' 2 = t 2) (k3 : t' 3 = t 3) : zTree NB NP NC s' t' := by
  unfold zTree at h ⊢
  rw [h46, h47, h48, h49, h50, h51, h53, h54, g0, g2, g4, k1, k2, k3]
  exact h
