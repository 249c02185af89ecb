/-! EASY STEPS -/
theorem within_in : fTp_within = fMd_in := rfl
theorem in_spec (a : Int32) {lo hi : Int} (h1 : -2147483648 ≤ lo) (h2 : lo < 2147483648) (h3 : -2147483648 ≤ hi) (h4 : hi < 2147483648) : (fMd_in a (iI lo) (iI hi) = true ∧ ∃ n : Int, lo ≤ n ∧ n ≤ hi ∧ a = iI n) ∨ (fMd_in a (iI lo) (iI hi) = false ∧ ∀ n : Int, lo ≤ n → n ≤ hi → a ≠ iI n) := by
  have ha1 := Int32.le_toInt a
  have ha2 := Int32.toInt_lt a
  unfold fMd_in
  by_cases c1 : a < iI lo
  · right
    rw [if_pos c1]
    refine ⟨rfl, fun n hn _ e => ?_⟩
    rw [e, iI_lt (by omega) (by omega) h1 h2] at c1
    omega
  · rw [if_neg c1]
    by_cases c2 : iI hi < a
    · right
      rw [if_pos c2]
      refine ⟨rfl, fun n _ hn e => ?_⟩
      rw [e, iI_lt h3 h4 (by omega) (by omega)] at c2
      omega
    · left
      rw [if_neg c2]
      refine ⟨rfl, a.toInt, ?_, ?_, iI_of a⟩
      · rw [Int32.lt_iff_toInt_lt, iI_toInt h1 h2] at c1; omega
      · rw [Int32.lt_iff_toInt_lt, iI_toInt h3 h4] at c2; omega
/-- of a count K: one of them, by its number, or none -/
theorem in_cnt (a : Int32) {K : Nat} (hK : K ≤ 1000) : (fMd_in a 0 (iI K - 1) = true ∧ ∃ n : Nat, n < K ∧ a = iI n) ∨ (fMd_in a 0 (iI K - 1) = false ∧ ∀ n : Nat, n < K → a ≠ iI n) := by
  rw [i0, i1, iI_sub]
  rcases in_spec a (lo := 0) (hi := (K : Int) - 1) (by omega) (by omega) (by omega) (by omega) with ⟨h, n, h1, h2, e⟩ | ⟨h, hn⟩
  · left
    refine ⟨h, n.toNat, by omega, ?_⟩
    rw [e]; congr 1; omega
  · exact Or.inr ⟨h, fun n hn' => hn n (by omega) (by omega)⟩
theorem in_to (a : Int32) {hi : Nat} (hK : hi ≤ 1000) : (fMd_in a 0 (iI hi) = true ∧ ∃ n : Nat, n ≤ hi ∧ a = iI n) ∨ (fMd_in a 0 (iI hi) = false ∧ ∀ n : Nat, n ≤ hi → a ≠ iI n) := by
  rw [i0]
  rcases in_spec a (lo := 0) (hi := (hi : Int)) (by omega) (by omega) (by omega) (by omega) with ⟨h, n, h1, h2, e⟩ | ⟨h, hn⟩
  · left
    refine ⟨h, n.toNat, by omega, ?_⟩
    rw [e]; congr 1; omega
  · exact Or.inr ⟨h, fun n hn' => hn n (by omega) (by omega)⟩
theorem in_1 (a : Int32) {hi : Nat} (hK : hi ≤ 1000) : (fMd_in a 1 (iI hi) = true ∧ ∃ n : Nat, 1 ≤ n ∧ n ≤ hi ∧ a = iI n) ∨ (fMd_in a 1 (iI hi) = false ∧ ∀ n : Nat, 1 ≤ n → n ≤ hi → a ≠ iI n) := by
  rw [i1]
  rcases in_spec a (lo := 1) (hi := (hi : Int)) (by omega) (by omega) (by omega) (by omega) with ⟨h, n, h1, h2, e⟩ | ⟨h, hn⟩
  · left
    refine ⟨h, n.toNat, by omega, by omega, ?_⟩
    rw [e]; congr 1; omega
  · exact Or.inr ⟨h, fun n h1 hn' => hn n (by omega) (by omega)⟩
theorem zb0 : zk_b false = 0 := rfl
theorem zb1 : ¬ zk_b true = 0 := by decide
theorem pr_type {y z : zkM} (h : zRel y z) (a1 : Int32) : ∃ v y' z', sX_type y a1 v y' ∧ sM_type z a1 v z' ∧ zRel y' z' := by
  obtain ⟨NB, NP, NC, hT, hR, hP, hA, hO, ⟨N, hN, e1, e2, hx⟩, hB⟩ := id h
  unfold sX_type sM_type fTp_type fMd_type
  rw [within_in, i255]
  rcases in_to a1 (hi := 255) (by omega) with ⟨hw, c, hc, ea⟩ | ⟨hw, -⟩
  · rw [show (((255 : Nat) : Int)) = 255 from rfl] at hw
    simp only [hw, zb1, if_false]
    unfold fScript_append
    rw [e1, e2, i200]
    by_cases hf : N = 200
    · subst hf
      rw [if_neg (by rw [iI_lt (by omega) (by omega) (by omega) (by omega)]; omega), if_pos (show iI ((200 : Nat) : Int) = iI 200 from rfl)]
      exact ⟨(-3 : Int32), y, z, rfl, rfl, h⟩
    · rw [if_pos (by rw [iI_lt (by omega) (by omega) (by omega) (by omega)]; omega), if_neg (by rw [iI_eq (by omega) (by omega) (by omega) (by omega)]; omega), zk_inbN (by omega) (by omega), iI_clampN (by omega)]
      have y1 : (zk_u y 2 N a1).1 1 1 = iI N := by rw [zk_u_off (by decide)]; exact e1
      have z1 : (zk_u z 9 N a1).1 0 15 = iI N := by rw [zk_u_off (by decide)]; exact e2
      refine ⟨iI N + 1, zk_u (zk_u y 2 N a1) 1 1 (iI N + 1), zk_u (zk_u z 9 N a1) 0 15 (iI N + 1), ?_, ?_, NB, NP, NC, ?_, ?_, ?_, ?_, ?_, ?_, hB⟩
      · simp only [zk_let, cond_true, y1, Option.bind_some, zb1, if_false]
        simp [zk_u]
      · simp only [zk_let, cond_true, z1]
        simp [zk_u]
      · exact hT.congr rfl rfl rfl rfl rfl rfl rfl rfl (by simp [zk_u]) (by simp [zk_u]) (by simp [zk_u]) rfl rfl rfl
      · exact hR
      · exact hP.congr (fun k h1 h2 => by rw [zk_u_off (by omega), zk_u_off (by omega)]) rfl rfl (by simp [zk_u]) rfl
      · exact hA.congr rfl rfl rfl rfl rfl
      · exact hO.congr rfl rfl rfl rfl (by simp [zk_u]) rfl
      · refine ⟨N + 1, by omega, by simp [zk_u, i1, iI_add], by simp [zk_u, i1, iI_add], fun i hi => ?_⟩
        by_cases hin : i = N
        · subst hin
          exact ⟨c, hc, by simp [zk_u, ea], by simp [zk_u, ea]⟩
        · obtain ⟨c2, k1, k2, k3⟩ := hx i (by omega)
          exact ⟨c2, k1, by simp [zk_u, hin, k2], by simp [zk_u, hin, k3]⟩
  · rw [show (((255 : Nat) : Int)) = 255 from rfl] at hw
    simp only [hw, zb0, if_true]
    exact ⟨-1, y, z, rfl, rfl, h⟩
theorem pr_clear {y z : zkM} (h : zRel y z) : ∃ v y' z', sX_clear y v y' ∧ sM_clear z v z' ∧ zRel y' z' := by
  obtain ⟨NB, NP, NC, hT, hR, hP, hA, hO, ⟨N, hN, e1, e2, hx⟩, hB⟩ := id h
  refine ⟨iI N, zk_u y 1 1 0, zk_u z 0 15 0, ?_, ?_, NB, NP, NC, ?_, ?_, ?_, ?_, ?_, ⟨0, by omega, by simp [zk_u, i0], by simp [zk_u, i0], fun i h => by omega⟩, hB⟩
  · unfold sX_clear fTp_clear zk_let; rw [e1]
  · unfold sM_clear fMd_clear zk_let; rw [e2]
  · exact hT.congr rfl rfl rfl rfl rfl rfl rfl rfl (by simp [zk_u]) (by simp [zk_u]) (by simp [zk_u]) rfl rfl rfl
  · exact hR
  · exact hP.congr (fun k h1 h2 => by rw [zk_u_off (by omega)]) rfl rfl (by simp [zk_u]) rfl
  · exact hA.congr rfl rfl rfl rfl rfl
  · exact hO.congr rfl rfl rfl rfl (by simp [zk_u]) rfl
theorem pr_trace {y z : zkM} (h : zRel y z) : ∃ v y' z', sX_trace y v y' ∧ sM_trace z v z' ∧ zRel y' z' := by
  obtain ⟨NB, NP, NC, hT, hR, hP, hA, hO, hX, hB⟩ := id h
  exact ⟨_, y, z, ⟨rfl, rfl⟩, ⟨by unfold fMd_trace fTp_trace; rw [hB], rfl⟩, h⟩
theorem pr_forget {y z : zkM} (h : zRel y z) : ∃ v y' z', sX_forget y v y' ∧ sM_forget z v z' ∧ zRel y' z' := by
  obtain ⟨NB, NP, NC, hT, hR, hP, hA, ⟨T, hT6, e1, e2, hx⟩, hX, hB⟩ := id h
  refine ⟨iI T, zk_u y 26 0 0, zk_u z 0 11 0, ?_, ?_, NB, NP, NC, ?_, ?_, ?_, ?_, ⟨0, by omega, by simp [zk_u, i0], by simp [zk_u, i0], fun i h => by omega⟩, ?_, hB⟩
  · unfold sX_forget fTp_forget zk_let; rw [e1]
  · unfold sM_forget fMd_forget zk_let; rw [e2]
  · exact hT.congr rfl rfl rfl rfl rfl rfl rfl rfl (by simp [zk_u]) (by simp [zk_u]) (by simp [zk_u]) rfl rfl rfl
  · exact hR
  · exact hP.congr (fun k h1 h2 => by rw [zk_u_off (by omega)]) rfl rfl (by simp [zk_u]) rfl
  · exact hA.congr rfl rfl rfl rfl rfl
  · exact hX.congr rfl rfl (by simp [zk_u]) rfl
