theorem pr_tree {y z : zkM} (h : zRel y z) : ∃ v y' z', sX_tree y v y' ∧ sM_tree z v z' ∧ zRel y' z' := by
  obtain ⟨T, R, hA⟩ := h.all
  obtain ⟨-, -, -, -, -, -, -, -, -, ⟨N, hN, x1, x2, hx⟩, hB9⟩ := id hA
  obtain ⟨L, hL⟩ : ∃ L : Nat → Nat, ∀ i, i < N → y.1 2 i = jN (L i) ∧ z.1 9 i = jN (L i) ∧ L i ≤ 255 := by
    refine ⟨fun i => (y.1 2 i).toNatClampNeg, fun i hi => ?_⟩
    obtain ⟨c, hc, e1, e2⟩ := hx i hi
    have e3 : (y.1 2 i).toNatClampNeg = c := by rw [e1]; exact iI_clampN (by omega)
    dsimp only
    rw [e3]
    exact ⟨e1, e2, hc⟩
  have ht : Tx L N y z := ⟨x1, x2, ⟨hN, fun i hi => ⟨(hL i hi).1, (hL i hi).2.2⟩⟩, ⟨hN, fun i hi => ⟨(hL i hi).2.1, (hL i hi).2.2⟩⟩⟩
  obtain ⟨mem, zem, s, tk, v, f1, g1, P⟩ := begun ht
  have hp := parse ht 19 500 500 T00 mem zem s tk v B00 P (by decide) (by omega) (by omega)
  rw [show T00 0 0 + T00 0 1 + T00 0 2 = 0 from rfl] at hp
  have hX0 : fScript_readInto y = (fScript_readInto_L15 500 mem (jN 0)).bind (fun q4 => Sum.elim (fun y => some y) (fun q5 => some (q5.1, q5.2)) q4) := by
    unfold fScript_readInto fTree_strip
    rw [zk_let_eq, zk_let_eq, zk_let_eq, zk_let_eq, zk_let_eq, k0, f1, Option.bind_some]
  rcases hp with ⟨mem', zem', x, s', e1, e2, e3, e4, e5, e6, e7⟩ | ⟨mem', zem', T', k, e1, e2, e3, e4, hB, hX, hM, e6, e7⟩
  · refine ⟨-jN 10 - jN s', mem', zem', ?_, ?_, h.same e3.kx e4.km⟩
    · unfold sX_tree fTp_tree
      rw [hX0, e1, Option.bind_some, Sum.elim_inl, Option.bind_some]
      have hneg : ¬ (0 : Int32) ≤ -jN 10 - jN s' := by
        rw [i0]
        unfold jN
        rw [iI_neg, iI_sub, iI_le (by omega) (by omega) (by omega) (by omega)]
        omega
      exact if_neg hneg
    · unfold sM_tree fMd_tree
      rw [zk_let_eq, zk_let_eq, zk_let_eq, zk_let_eq, zk_let_eq, k0, g1, Option.bind_some, e2, Option.bind_some]
      have h9 : ¬ zem'.1 0 20 = jN 0 := by rw [e6]; decide
      refine (if_neg h9).trans ?_
      rw [e5, k10]
  · obtain ⟨y', a1, a2, a3, a4, a5, a6, a7, a8, a9⟩ := treeX (v := jN k) hB hX
    obtain ⟨z', b1, b2, b3, b4, b5, b6, b7, b8⟩ := treeM (v := jN k) hB hM
    have hrel : zRel y' z' := by
      refine zRel.of (T := T') (R := R00 T') hB.1 a2 b2 ⟨by rw [R00_4]; omega, fun e he => ?_⟩ a3 b3 ⟨0, 0, by omega, by omega, a4, b4, a5, fun j hj => by omega⟩ (fun m hm => ⟨(a6 m hm).trans (b6 m hm).symm, Or.inl (b6 m hm)⟩) ⟨0, by omega, a7, b5, fun j hj => by omega⟩ ⟨0, by omega, a8, b7, fun j hj => by omega⟩ ?_
      · have hk := hB.2 (e / 2) (by omega)
        rw [R00_0, R00_1, R00_2]
        refine ⟨?_, by omega, by omega, fun _ => zGv_pos _⟩
        split <;> omega
      · rw [a9, e3.2.2, b8, e4.2.2]; exact hB9
    refine ⟨jN k, y', z', ?_, ?_, hrel⟩
    · unfold sX_tree fTp_tree
      rw [hX0, e1, Option.bind_some, Sum.elim_inr, Option.bind_some]
      have hpos : (0 : Int32) ≤ jN k := by rw [k0, jN_le (by omega) (by omega)]; omega
      refine (if_pos hpos).trans ?_
      rw [zk_let_eq, zk_let_eq, k0]
      exact a1
    · unfold sM_tree fMd_tree
      rw [zk_let_eq, zk_let_eq, zk_let_eq, zk_let_eq, zk_let_eq, k0, g1, Option.bind_some, e2, Option.bind_some]
      rw [k0] at b1
      exact (if_pos e6).trans b1
