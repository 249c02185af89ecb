theorem zk_cw_rep {α : Nat → Nat} {κ : Nat → ClassId} {cs : List va_E} {c : va_E} : ∀ N : Nat, zk_cw α κ (cs ++ List.replicate N c) = zk_cw α κ cs ++ (List.range N).map (fun i => (α (cs.length + i), zk_ce α κ c))
  | 0 => by simp
  | N + 1 => by
    rw [List.replicate_succ', ← List.append_assoc, zk_cw_push, zk_cw_rep N, List.range_succ, List.map_append, List.append_assoc, List.length_append, List.length_replicate]
    rfl
set_option maxHeartbeats 4000000 in
theorem zk_Amulti {d Nc Ns n0 : Nat} {M : zkY} {cs' : List va_E} {cc ss pc : Nat} {lv : List (Option Value)} {st : List Value} {cs : List va_E} (N K : Nat) (rr : Nat → Nat) {n k : Int32} {idx : Nat} (hd : decode M.2.1 pc = .ok (.multianewarray idx 2, 4)) (hcl : Cond.classLink M.1.cls idx "[[I" ∈ zk_tb) (harr : Cond.arrayClass .int ∈ zk_tb) (hn : ¬ n < 0) (hk : ¬ k < 0) (hN : n.toNatClampNeg = N) (hK9 : k.toNatClampNeg = K) (hb1 : N ≤ 1000) (hb2 : K ≤ 1000) (hrr : ∀ i, i < N → rr i = cs.length + 1 + i) (hlt : cs.length + N < 1000) (hvb : zk_vbs cs.length lv st = true) (hcc : cc + (1 + N) ≤ Nc) (hss : ss + (N + N * K) ≤ Ns)
    (kk : zk_A d Nc Ns n0 M cs' (cc + 1 + N) (ss + N + N * K) (pc + 4) lv (.ref cs.length :: st) ((cs ++ [.inl (3, N, .inr (.inr (.inr (.inr (fun i => if i < N then some (rr i) else none)))))]) ++ List.replicate N (.inl (0, K, .inl (fun _ => 0))))) : zk_A d Nc Ns n0 M cs' cc ss pc lv (.int k :: .int n :: st) cs := by
  intro p l e s m args below meth c D α κ A H locs ls hF hI hP hD hS hl hw
  have hKs := hF.2.2.2.2.2.2.2.1
  have hcy : s.vm.findClass (FieldType.array .int).toString = some (κ 0) := (hKs.2 0 _ rfl).2
  have hov : (Cond.arrayOver (.array .int)).before args s = true := arrayOver_alikeB (Vm.Alike.refl s.vm) hI.2.2.2
  have es : "[" ++ (FieldType.array .int).toString = "[[I" := by decide
  refine va_mna (X := zk_cw α κ cs) (L := []) (f := fun _ => .inr (0, [])) (z := (K, .inl (fun _ => 0))) (N' := N) (K' := K) (ty := .int) (cy := κ 0) hF.1 hF.2.1 hF.2.2.2.2.2.1 (by rw [es]; exact hF.ts hcl) hov (hF.ts harr) hcy hKs (by simpa [va_pl] using hP) (by simpa [va_pl] using hD) hS hI.2.1 hn hk hN hK9 (by omega) (by show K * 4 ≤ _; omega) (by omega) rfl rfl hcc hss (fun c => by show ({ cls := c, slots := Array.replicate K (.int 0), vm := .none } : Cell) = _; rw [arrV_new]; rfl) hd (fun q r cA H1 hinj _ hK1 hP1 hD1 hS1 => ?_)
  have hcA : cA = κ 3 := zk_cls (κ := κ) (q := 3) rfl (fun C h => by cases h) hKs hK1
  subst hcA
  obtain ⟨α', hα'⟩ : ∃ α' : Nat → Nat, α' = fun j => if j = cs.length then q else if cs.length < j ∧ j ≤ cs.length + N then r (j - cs.length - 1) else α j := ⟨_, rfl⟩
  have ha : ∀ j, j < cs.length → α' j = α j := fun j hj => by rw [hα']; show (if _ then _ else _) = _; rw [if_neg (by omega), if_neg (by omega)]
  have hj : ∀ j, α' (1000 + j) = α (1000 + j) := fun j => by rw [hα']; show (if _ then _ else _) = _; rw [if_neg (by omega), if_neg (by omega)]
  have h0 : α' cs.length = q := by rw [hα']; show (if _ then _ else _) = _; rw [if_pos rfl]
  have h1 : ∀ i, i < N → α' (cs.length + 1 + i) = r i := fun i hi => by
    rw [hα']; show (if _ then _ else _) = _
    rw [if_neg (by omega), if_pos (by omega), show cs.length + 1 + i - cs.length - 1 = i by omega]
  have hpl : va_pl ([] ++ (List.range N).map r) (vr_up (fun _ => (.inr (0, []) : va_E)) ((List.range N).map r) (.inl (κ 0, (K, .inl (fun _ => 0))))) = (List.range N).map (fun i => (r i, (.inl (κ 0, (K, .inl (fun _ => 0))) : va_E))) := by
    unfold va_pl
    rw [List.nil_append, List.map_map]
    apply List.map_congr_left
    intro i hi
    show (r i, vr_up _ _ _ (r i)) = _
    rw [vr_up_in (List.mem_map.mpr ⟨i, hi, rfl⟩)]
  have he : (zk_cw α κ cs ++ [(q, .inl (κ 3, N, .inr (.inr (.inr (.inr (fun i => if i < N then some (r i) else none))))))]) ++ va_pl ([] ++ (List.range N).map r) (vr_up (fun _ => (.inr (0, []) : va_E)) ((List.range N).map r) (.inl (κ 0, (K, .inl (fun _ => 0)))))
      = zk_cw α' κ ((cs ++ [.inl (3, N, .inr (.inr (.inr (.inr (fun i => if i < N then some (rr i) else none)))))]) ++ List.replicate N (.inl (0, K, .inl (fun _ => 0)))) := by
    rw [hpl, zk_cw_rep, zk_cw_push, zk_cw_congr ha hw.1, h0]
    congr 1
    · congr 1
      show [(q, _)] = [(q, Sum.inl (κ 3, N, Sum.inr (Sum.inr (Sum.inr (Sum.inr (fun i => (if i < N then some (rr i) else none).map α'))))))]
      have : (fun i => if i < N then some (r i) else none) = (fun i => (if i < N then some (rr i) else none).map α') := by
        funext i
        by_cases hi : i < N
        · rw [if_pos hi, if_pos hi]
          show some (r i) = some (α' (rr i))
          rw [hrr i hi, h1 i hi]
        · rw [if_neg hi, if_neg hi]; rfl
      rw [this]
    · apply List.map_congr_left
      intro i hi
      have hi' := List.mem_range.mp hi
      rw [List.length_append, List.length_singleton, h1 i hi']
      rfl
  rw [he] at hP1 hD1
  have hlen : ((cs ++ [(.inl (3, N, .inr (.inr (.inr (.inr (fun i => if i < N then some (rr i) else none))))) : va_E)]) ++ List.replicate N (.inl (0, K, .inl (fun _ => 0)) : va_E)).length = cs.length + 1 + N := by rw [List.length_append, List.length_append, List.length_replicate]; rfl
  have hwf : zk_wfs ((cs ++ [.inl (3, N, .inr (.inr (.inr (.inr (fun i => if i < N then some (rr i) else none)))))]) ++ List.replicate N (.inl (0, K, .inl (fun _ => 0)))) := by
    intro x hx
    rw [hlen]
    rcases List.mem_append.mp hx with h9 | h9
    · rcases List.mem_append.mp h9 with h8 | h8
      · exact (hw.1 x h8).mono (by omega)
      · rw [List.mem_singleton.mp h8]
        intro i j hij
        have hij : (if i < N then some (rr i) else none) = some j := hij
        by_cases hi : i < N
        · rw [if_pos hi] at hij
          cases hij
          rw [hrr i hi]; omega
        · rw [if_neg hi] at hij; cases hij
    · rw [List.eq_of_mem_replicate h9]; trivial
  have kq := kk p l e s m args below meth c D α' κ A H1 locs ls ⟨hF.1, hF.2.1, hF.2.2.1, hF.2.2.2.1, hF.2.2.2.2.1, hF.2.2.2.2.2.1, hF.2.2.2.2.2.2.1, hKs, hF.2.2.2.2.2.2.2.2.al hj⟩ hI hP1 hD1 hS1 (zk_vbs_lv ha hvb hl) ⟨hwf, by rw [hlen]; have := hw.2; omega⟩
  rw [List.map_cons, zk_vbs_st ha hvb] at kq
  have e9 : zk_cv α' (.ref cs.length) = .ref q := by show Value.ref (α' cs.length) = _; rw [h0]
  rw [e9] at kq
  exact zk_W_mono (fun a s o t h => zk_ZA.al hw.2 ha hj h) kq
