/-! THE LAW: two systems side by side in one heap -/
def R_law : String := "TreePlanksLaw"
abbrev lw_A0 (s : State) : Nat → Prop := fun q => s.heap.size ≤ q
def lw_2 (S1 S2 : zkS) (D : va_G) (κ : Nat → ClassId) (s : State) (α β : Nat → Nat) (y z : zkM) (H : Heap) (locs : List Loc) : Prop :=
  va_P D vwCl (zk_w S1 α κ y) H ∧ va_D (lw_A0 s) (zk_w S1 α κ y) ∧ va_P D vwCl (zk_w S2 β κ z) H ∧ va_D (lw_A0 s) (zk_w S2 β κ z) ∧ (∀ i j, i < S1.1 → j < S2.1 → α i ≠ β j) ∧ va_S (lw_A0 s) s.heap H locs ∧ zk_ro α (lw_A0 s) s s.heap ∧ zk_ro β (lw_A0 s) s s.heap
theorem lw_2.swap {S1 S2 : zkS} {D : va_G} {κ : Nat → ClassId} {s : State} {α β : Nat → Nat} {y z : zkM} {H : Heap} {locs : List Loc} (h : lw_2 S1 S2 D κ s α β y z H locs) : lw_2 S2 S1 D κ s β α z y H locs :=
  ⟨h.2.2.1, h.2.2.2.1, h.1, h.2.1, fun i j hi hj e => h.2.2.2.2.1 j i hj hi e.symm, h.2.2.2.2.2.1, h.2.2.2.2.2.2.2, h.2.2.2.2.2.2.1⟩
theorem zk_w_at {S : zkS} {α : Nat → Nat} {κ : Nat → ClassId} {y : zkM} {k : Nat} {q : Nat × va_E} (h : (zk_w S α κ y)[k]? = some q) : k < S.1 ∧ q.1 = α k := by
  have hk : k < S.1 := by
    have := (List.getElem?_eq_some_iff.mp h).1
    unfold zk_w at this
    rwa [List.length_map, List.length_range] at this
  rw [zk_w_get hk] at h
  cases h
  exact ⟨hk, rfl⟩
abbrev lw_AX (S : zkS) (α : Nat → Nat) : Nat → Prop := fun q => ∃ k, k < S.1 ∧ q = α k
theorem zk_ro.narrow {α : Nat → Nat} {A B : Nat → Prop} {U : State} {H : Heap} (h : zk_ro α A U H) (hAB : ∀ q, B q → A q) : zk_ro α B U H := ⟨h.1, fun j q hq => ⟨(h.2 j q hq).1.narrow hAB, (h.2 j q hq).2.narrow hAB⟩⟩
theorem zk_goodL {M' : zkY} (h : Cond.code M'.1 M'.2.1 M'.2.2.1 M'.2.2.2 ∈ zk_tb) : GoodIn lw_tbl (zk_ws M') := by
  intro w hw
  rcases List.mem_cons.mp hw with rfl | hw
  · exact ⟨(List.mem_filter.mp h).1, Or.inl rfl⟩
  · exact ⟨(List.mem_filter.mp hw).1, good_of_word (List.mem_filter.mp hw).2⟩
theorem lw_cmp (v : Int64) : lg_cmp v v = 0 := by unfold lg_cmp; simp
section
variable {p : Program} {l : Launch} {e : Env} {s : State} {m : MethodId} {args : Array Value} {below : List Frame} {meth : Method} {c : Code} {Q : State → Prop} {pc cells slots : Nat} {ls : Array Slot} {rest : List Value} {H : Heap} {locs : List Loc} {D : va_G} {κ : Nat → ClassId} {α β : Nat → Nat} {y z : zkM} {S1 S2 : zkS}
/-- what holds of a system when it is called out of the law -/
theorem lw_pre (hK : va_K D vwCl (zk_tys κ) s) (L : lw_2 S1 S2 D κ s α β y z H locs) {U : State} (hU : U.heap = H) (hW : s.WarmedH U.vm) : zk_B S1 D α κ (lw_AX S1 α) y U := by
  have hs : ∀ q, lw_AX S1 α q → lw_A0 s q := fun q hq => by
    obtain ⟨k, hk, rfl⟩ := hq
    have := L.2.1.2 k _ (zk_w_get hk)
    exact this
  refine ⟨by rw [hU]; exact L.1, va_K.moved hW.alike hK, ⟨L.2.1.1, fun k q hq => ?_⟩, ?_⟩
  · obtain ⟨h1, h2⟩ := zk_w_at hq
    exact ⟨k, h1, h2⟩
  · rw [hU]
    exact (L.2.2.2.2.2.2.1.go L.2.2.2.2.2.1 hW).narrow hs
/-- behind a call: the other system is as it was -/
theorem lw_post (L : lw_2 S1 S2 D κ s α β y z H locs) {α' : Nat → Nat} {y' : zkM} {t st₀ : State} {H1 : Heap} {L9 : List Loc} (hset : ∀ k, k < S1.1 → ∃ j, j < S1.1 ∧ α' k = α j) (hj : ∀ j, α' (1000 + j) = α (1000 + j)) (h0 : st₀.heap = H) (e1 : H1 = t.heap) (hB : zk_B S1 D α' κ (lw_AX S1 α) y' t) (hF : va_F (lw_AX S1 α) st₀ t) (hL : ∀ q ∈ L9, lw_AX S1 α q.base) : lw_2 S1 S2 D κ s α' β y' z H1 (locs ++ L9) := by
  have hs : ∀ q, lw_AX S1 α q → lw_A0 s q := fun q hq => by
    obtain ⟨k, hk, rfl⟩ := hq
    exact L.2.1.2 k _ (zk_w_get hk)
  obtain ⟨hz, hk⟩ := hF
  rw [h0] at hz hk
  subst e1
  refine ⟨hB.1, ⟨hB.2.2.1.1, fun k q hq => hs _ (hB.2.2.1.2 k q hq)⟩, L.2.2.1.kept (fun k q hq => ?_), L.2.2.2.1, fun i j hi hj' e9 => ?_, ⟨Nat.le_trans L.2.2.2.2.2.1.1 hz, fun q h1 h2 => ?_, fun q hq => ?_⟩, L.2.2.2.2.2.2.1.al hj, L.2.2.2.2.2.2.2⟩
  · have hlt := (L.2.2.1 k q hq).lt
    refine hk q.1 hlt (fun hx => ?_)
    obtain ⟨h1, h2⟩ := zk_w_at hq
    obtain ⟨i, hi, he⟩ := hx
    exact L.2.2.2.2.1 i k hi h1 (he.symm.trans h2)
  · obtain ⟨i2, hi2, he2⟩ := hset i hi
    exact L.2.2.2.2.1 i2 j hi2 hj' (he2.symm.trans e9)
  · rw [hk q (Nat.lt_of_lt_of_le h1 L.2.2.2.2.2.1.1) (fun hx => h2 (hs q hx))]
    exact L.2.2.2.2.2.1.2.1 q h1 h2
  · rcases List.mem_append.mp hq with h | h
    · exact L.2.2.2.2.2.1.2.2 q h
    · exact hs _ (hL q h)
theorem lw_roomok {d n : Nat} (hd : d ≤ 1000) (hn : n ≤ 40) : (zk_room d).frames + 1 ≤ room_1.frames ∧ 8 + (n + 11) + (zk_room d).locals ≤ room_1.locals := by
  show d + 1 + 1 ≤ 2048 ∧ 8 + (n + 11) + (64 * d + 64) ≤ 84000
  omega
theorem lw_call (ci : Nat) (as : List Value) {M' : zkY} {C : String} {T9 : u_T} {N d idx : Nat} {r : Option Value × zkM} (hx : p.tables.exec = Jvm.exec) (hb : c.code = code) (hml : c.maxLocals = 4) (hown : s.vm.findClass R_law = some m.cls) (hts : ∀ w ∈ lw_tbl, w.before args s = true) (hsz : ls.size = 4) (hd : decode code pc = .ok (.invokevirtual idx, 3)) (hL : zk_lk M' as.length) (hlk : Cond.methodLink R_law idx M'.1 ∈ zk_tb ∧ Cond.instanceMethod M'.1 ∈ zk_tb ∧ Cond.selects C M'.1 M'.1 ∈ zk_tb) (has : as.map (zk_cv α) = as) (hly : S1.2.1 0 = some (.inr ci)) (hok : zk_ok ci C T9 N) (hk0 : Nat.ble 1 S1.1 = true) (hM : zk_X S1 d M' (.ref 0 :: as) y r) (hdd : d ≤ 1000) (hcat : (rest.map fun v => v.category).sum ≤ 8) (hK : va_K D vwCl (zk_tys κ) s) (hcs : cells ≤ room_1.cells ∧ slots ≤ room_1.slots) (hr : r.1.map (zk_cv α) = r.1) (L : lw_2 S1 S2 D κ s α β y z H locs)
    (kk : ∀ (H1 : Heap) (locs1 : List Loc), lw_2 S1 S2 D κ s α β r.2 z H1 locs1 → W p l e room_1 s m args below meth c H1 locs1 cells slots Q (F0 m (pc + 3) ls (r.1.toList ++ rest))) : W p l e room_1 s m args below meth c H locs cells slots Q (F0 m pc ls (as.reverse ++ .ref (α 0) :: rest)) := by
  have ht : ∀ {w : Cond}, w ∈ zk_tb → w.before args s = true := fun h => hts _ (List.mem_filter.mp h).1
  have hrun := va_runV (As := as) (b := α 0) (C := C) (rest := rest) (g := F0 m pc ls (as.reverse ++ .ref (α 0) :: rest)) (cells := cells) (slots := slots) (H := H) (locs := locs) (below := below) (meth := meth) (e := e) (R := room_1) (args := args) ⟨hx, hb, hml, hown, hts⟩ (hM l D α κ (lw_AX S1 α)) ⟨callB_of as.length hts (zk_goodL hL.1) rfl rfl rfl (ht hL.2.1) (ht hlk.1) hL.2.2.1 (lw_roomok hdd hL.2.2.2), ht hlk.2.1, ht hlk.2.2⟩ ⟨zk_B.blind, va_recv hK L.1 hok.1 (q0 := 0) (by rw [zk_w_get (Nat.le_of_ble_eq_true hk0), zk_cell_obj hly]), fun U hU hW => ⟨by show (Value.ref (α 0) :: as).toArray = (Value.ref (α 0) :: as.map (zk_cv α)).toArray; rw [has], lw_pre hK L hU hW⟩⟩ rfl rfl hsz rfl (lv_room hcat) hd ⟨by show cells + 0 ≤ _; exact hcs.1, by show slots + 0 ≤ _; exact hcs.2⟩
  intro T hT X
  obtain ⟨v, st₀, t, T', L9, h0, X', hL9, e1, e2, ⟨hv, hB, hF⟩, stp⟩ := hrun T hT X
  cases hv
  obtain ⟨t2, a1, b1⟩ := kk T'.heap (locs ++ L9) (lw_post L (fun k hk => ⟨k, hk, rfl⟩) (fun _ => rfl) h0 e1 hB hF hL9) T' rfl X'
  refine ⟨t2, stp t2 ?_, b1⟩
  rw [hr]
  exact a1
theorem lw_callT {M' : zkY} {d idx : Nat} {r : Option Value × zkM} {y : zkM} (hx : p.tables.exec = Jvm.exec) (hb : c.code = code) (hml : c.maxLocals = 4) (hown : s.vm.findClass R_law = some m.cls) (hts : ∀ w ∈ lw_tbl, w.before args s = true) (hsz : ls.size = 4) (hd : decode code pc = .ok (.invokevirtual idx, 3)) (hL : zk_lk M' 0) (hlk : Cond.methodLink R_law idx M'.1 ∈ zk_tb ∧ Cond.instanceMethod M'.1 ∈ zk_tb ∧ Cond.selects RX11 M'.1 M'.1 ∈ zk_tb) (hM : zk_Xt d M' [.ref 0] y r) (hdd : d ≤ 1000) (hcat : (rest.map fun v => v.category).sum ≤ 8) (hK : va_K D vwCl (zk_tys κ) s) (hcs : cells ≤ room_1.cells ∧ slots ≤ room_1.slots) (hr : ∀ α, r.1.map (zk_cv α) = r.1) (L : lw_2 zSX S2 D κ s α β y z H locs)
    (kk : ∀ (α' : Nat → Nat) (H1 : Heap) (locs1 : List Loc), lw_2 zSX S2 D κ s α' β r.2 z H1 locs1 → α' 0 = α 0 → W p l e room_1 s m args below meth c H1 locs1 cells slots Q (F0 m (pc + 3) ls (r.1.toList ++ rest))) : W p l e room_1 s m args below meth c H locs cells slots Q (F0 m pc ls (.ref (α 0) :: rest)) := by
  have ht : ∀ {w : Cond}, w ∈ zk_tb → w.before args s = true := fun h => hts _ (List.mem_filter.mp h).1
  have hrun := va_runV (As := []) (b := α 0) (C := RX11) (rest := rest) (g := F0 m pc ls (.ref (α 0) :: rest)) (cells := cells) (slots := slots) (H := H) (locs := locs) (below := below) (meth := meth) (e := e) (R := room_1) (args := args) ⟨hx, hb, hml, hown, hts⟩ (hM l D α κ (lw_AX zSX α)) ⟨callB_of 0 hts (zk_goodL hL.1) rfl rfl rfl (ht hL.2.1) (ht hlk.1) hL.2.2.1 (lw_roomok hdd hL.2.2.2), ht hlk.2.1, ht hlk.2.2⟩ ⟨zk_B.blind, va_recv hK L.1 zk_ok11.1 (q0 := 0) (by rw [zk_w_get (S := zSX) (by decide), zk_cell_obj (S := zSX) (ci := 11) rfl]), fun U hU hW => ⟨rfl, lw_pre hK L hU hW⟩⟩ rfl rfl hsz rfl (lv_room hcat) hd ⟨by show cells + 0 ≤ _; exact hcs.1, by show slots + 0 ≤ _; exact hcs.2⟩
  intro T hT X
  obtain ⟨v, st₀, t, T', L9, h0, X', hL9, e1, e2, hor, stp⟩ := hrun T hT X
  rcases hor with ⟨hv, hB, hF⟩ | ⟨hv, hB, hF⟩
  · cases hv
    obtain ⟨t2, a1, b1⟩ := kk α T'.heap (locs ++ L9) (lw_post L (fun k hk => ⟨k, hk, rfl⟩) (fun _ => rfl) h0 e1 hB hF hL9) rfl T' rfl X'
    refine ⟨t2, stp t2 ?_, b1⟩
    rw [hr]
    exact a1
  · cases hv
    obtain ⟨t2, a1, b1⟩ := kk (fun k => α (zk_pi k)) T'.heap (locs ++ L9) (lw_post L (fun k hk => ⟨zk_pi k, zk_pi_lt hk, rfl⟩) (fun j => by show α (zk_pi (1000 + j)) = _; rw [zk_pi_hi]) h0 e1 hB hF hL9) rfl T' rfl X'
    refine ⟨t2, stp t2 ?_, b1⟩
    rw [hr]
    exact a1
end
