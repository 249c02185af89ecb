/-! from the entry: what the tables give, the two objects made -/
def zfs12 : List Value := [.int 0, .null, .int 0, .null, .int 0, .null, .null, .null, .int 0, .null, .null, .int 0, .null, .long 0, .null, .int 0, .int 0, .int 0, .int 0, .int 0, .int 0, .int 0, .null, .int 0, .null, .int 0, .null, .null, .null, .null, .null, .null, .null, .null]
theorem zdf12 : ∀ j, j < 34 → defaultValue (tyX12 j) = vp_V zfs12 j := zdf_X12
theorem lw_nst : ∀ q ∈ zk_nst, Cond.methodLinkNest q.1 q.2.1 q.2.2.1 q.2.2.2 ∈ lw_tbl := by decide +kernel
theorem lw_nsti : ∀ q ∈ zk_nsti, Cond.methodLinkNest q.1 q.2.1 q.2.2.1 q.2.2.2 ∈ lw_tbl := by decide +kernel
theorem lw_arr : Cond.arrayClass .int ∈ lw_tbl ∧ Cond.arrayClass .boolean ∈ lw_tbl ∧ Cond.arrayClass .long ∈ lw_tbl ∧ Cond.arrayOver (.array .int) ∈ lw_tbl := by decide +kernel
theorem lw_O {args : Array Value} {s : State} (hts : ∀ w ∈ lw_tbl, w.before args s = true) : zk_O s := ⟨fun q hq => va_Nw.of rfl (hts _ (lw_nsti q hq)), arrayOver_alikeB (Vm.Alike.refl s.vm) (hts _ lw_arr.2.2.2)⟩
/-- a static array: where it lies, what it holds -/
def lw_Sa (s : State) (t : Nat) (q : String × List Int32) : Prop := va_Z "TreePlanks$Script" q.1 "[I" (.ref t) (lw_A0 s) s s.heap ∧ va_T .int t q.2.length (fun i => .int (q.2.getD i 0)) (lw_A0 s) s s.heap
theorem lw_sa {args : Array Value} {s : State} {n : String} {vs : List Int32} {N : Nat} (hN : vs.length = N) (hN2 : N < 2 ^ 31) (hl : (Cond.laysStatic "TreePlanks$Script" n "[I").before args s = true) (hi : (Cond.initialized "TreePlanks$Script").before args s = true) (harr : (Cond.arrayOf (.static "TreePlanks$Script" n "[I") .int).before args s = true) (hlen : (Cond.eq (.length (.static "TreePlanks$Script" n "[I")) (.int (Int32.ofNat N))).before args s = true) (hel : ∀ j : Nat, j < N → (Cond.eq (.elem (.static "TreePlanks$Script" n "[I") (.int (Int32.ofNat j))) (.int (vs.getD j 0))).before args s = true) : ∃ t, lw_Sa s t (n, vs) := by
  have hA : ∀ a : Nat, a < s.heap.size → ¬ lw_A0 s a := fun a h q => absurd (Nat.lt_of_lt_of_le h q) (Nat.lt_irrefl _)
  subst hN
  obtain ⟨t, h1, h2⟩ := va_Tof (A := lw_A0 s) (N := vs.length) (f := fun i => .int (vs.getD i 0)) hN2 harr (va_eqt hlen) (fun j hj => va_eqt (hel j hj)) hA
  exact ⟨t, va_Zof hl hi h1 hA, h2⟩
theorem lw_arrK {s : State} {args : Array Value} {ty : FieldType} (h : (Cond.arrayClass ty).before args s = true) (hno : ∀ C, ty ≠ .object C) : ∃ cA, ArrOfT s cA ty ∧ va_RA s cA ty := by
  obtain ⟨c, k, comp, h1, h2, h3⟩ := Cond.arrayClass_spec h
  refine ⟨c, fun n z => ⟨fun k h => (by cases h), k, h2, comp, h3⟩, ?_⟩
  cases ty <;> first | exact absurd rfl (hno _) | exact h1
theorem lw_arrK2 {s : State} {args : Array Value} (h : (Cond.arrayOver (.array .int)).before args s = true) : ∃ cA, ArrOfT s cA (.array .int) ∧ va_RA s cA (.array .int) := by
  obtain ⟨comp, c, k, h1, h2, h3, h4, h5⟩ := arrayOver_specB h
  exact ⟨c, fun n z => ⟨fun k h => (by cases h), k, h3, comp, h4⟩, h5⟩
section
variable {p : Program} {l : Launch} {e : Env} {s : State} {m : MethodId} {args : Array Value} {below : List Frame} {meth : Method} {c : Code} {Q : State → Prop} {pc cells slots : Nat} {ls : Array Slot} {rest : List Value} {H : Heap} {locs : List Loc} {D : va_G} {κ : Nat → ClassId}
theorem lw_ctor {M' : zkY} {d Nc Ns idx q0 : Nat} {cell0 : va_E} {cs' : List va_E} {α0 : Nat → Nat} (hx : p.tables.exec = Jvm.exec) (hb : c.code = code) (hml : c.maxLocals = 4) (hown : s.vm.findClass R_law = some m.cls) (hts : ∀ w ∈ lw_tbl, w.before args s = true) (hsz : ls.size = 4) (hd : decode code pc = .ok (.invokespecial idx, 3)) (hL : zk_lk M' 0) (hlk : Cond.methodLink R_law idx M'.1 ∈ zk_tb ∧ Cond.instanceMethod M'.1 ∈ zk_tb) (hrt : M'.2.2.2 = none) (hnm : M'.1.name = "<init>") (hM : zk_XA d Nc Ns M' [.ref 0] [cell0] cs') (hdd : d ≤ 1000) (hcat : (rest.map fun v => v.category).sum ≤ 8) (hK : va_K D vwCl (zk_tys κ) s) (hα : α0 0 = q0) (hro : zk_ro α0 (lw_A0 s) s s.heap) (hwf : zk_wfs [cell0]) (hS : va_S (lw_A0 s) s.heap H locs) (hq : s.heap.size ≤ q0) (hP : va_P D vwCl (zk_cw α0 κ [cell0]) H) (hcs : cells + Nc ≤ room_1.cells ∧ slots + Ns ≤ room_1.slots)
    (kk : ∀ (α' : Nat → Nat) (H1 : Heap) (locs1 : List Loc), α' 0 = q0 → (∀ j, α' (1000 + j) = α0 (1000 + j)) → va_P D vwCl (zk_cw α' κ cs') H1 → va_D (fun q => q = q0 ∨ H.size ≤ q) (zk_cw α' κ cs') → (∀ q, q < H.size → q ≠ q0 → H1[q]? = H[q]?) → va_S (lw_A0 s) s.heap H1 locs1 → W p l e room_1 s m args below meth c H1 locs1 (cells + Nc) (slots + Ns) Q (F0 m (pc + 3) ls rest)) : W p l e room_1 s m args below meth c H locs cells slots Q (F0 m pc ls (.ref q0 :: rest)) := by
  have ht : ∀ {w : Cond}, w ∈ zk_tb → w.before args s = true := fun h => hts _ (List.mem_filter.mp h).1
  have hsub : ∀ q, (q = q0 ∨ H.size ≤ q) → lw_A0 s q := fun q h => by
    rcases h with h | h
    · subst h; exact hq
    · exact Nat.le_trans hS.1 h
  have hrun := va_runI (As := []) (b := q0) (rest := rest) (g := F0 m pc ls (.ref q0 :: rest)) (cells := cells) (slots := slots) (H := H) (locs := locs) (below := below) (meth := meth) (e := e) (R := room_1) (args := args) ⟨hx, hb, hml, hown, hts⟩ (hM l D α0 κ (fun q => q = q0 ∨ H.size ≤ q)) ⟨by
      have := callB_of (R := room_1) (rm := zk_roomA d Nc Ns) (mc := Nc) (ms := Ns) 0 hts (zk_goodL hL.1) rfl rfl rfl (ht hL.2.1) (ht hlk.1) hL.2.2.1 (by show d + 1 + 1 ≤ 2048 ∧ 8 + (M'.2.2.1 + 11) + (64 * d + 64) ≤ 84000; have := hL.2.2.2; omega)
      rw [hrt] at this
      exact this, hnm, ht hlk.2⟩ ⟨zk_BA.blind, fun U hU hW => ⟨by show (Value.ref q0 :: []).toArray = (Value.ref (α0 0) :: []).toArray; rw [hα], fun q h => Or.inr (by rw [hU] at h; exact h), hwf, by rw [hU]; exact hP, va_K.moved hW.alike hK, ⟨fun i j x y hi hj _ => by
        have h1 := (List.getElem?_eq_some_iff.mp hi).1
        have h2 := (List.getElem?_eq_some_iff.mp hj).1
        unfold zk_cw at h1 h2
        simp at h1 h2
        omega, fun k x hk => by
        have h1 := (List.getElem?_eq_some_iff.mp hk).1
        unfold zk_cw at h1
        simp at h1
        subst h1
        rw [zk_cw_get (c := cell0) rfl] at hk
        cases hk
        exact Or.inl hα⟩, by rw [hU]; exact (hro.go hS hW).narrow hsub, (lw_O hts).go hW⟩⟩ rfl rfl hsz rfl (lv_room hcat) hd hcs
  intro T hT X
  obtain ⟨v, st₀, t, T', L9, h0, X', hL9, e1, e2, ⟨α2, a1, a2, hv, hP1, hD1, hR1, hK1, hw1, hn1, hz, hk9⟩, stp⟩ := hrun T hT X
  cases hv
  rw [h0] at hz hk9
  obtain ⟨t2, b1, b2⟩ := kk α2 T'.heap (locs ++ L9) ((a1 0 (by simp)).trans hα) a2 (by rw [e1]; exact hP1) hD1 (fun q h1 h2 => by rw [e1]; exact hk9 q h1 (fun h => by rcases h with h | h <;> omega))
    ⟨Nat.le_trans hS.1 (by rw [e1]; exact hz), fun q h1 h2 => by rw [e1, hk9 q (Nat.lt_of_lt_of_le h1 hS.1) (fun h => h2 (hsub q h))]; exact hS.2.1 q h1 h2, fun q hq' => by
      rcases List.mem_append.mp hq' with h | h
      · exact hS.2.2 q h
      · exact hsub _ (hL9 q h)⟩ T' rfl X'
  exact ⟨t2, stp t2 b1, b2⟩
end
set_option maxHeartbeats 8000000 in
set_option maxRecDepth 100000 in
/-- THE LAW, from its entry -/
theorem whole_start {p : Program} {e : Env} {s : State} {m : MethodId} {below : List Frame} {meth : Method} {c : Code} (l : Launch) {b L : Nat} {xs : Nat → Int32} (hL : L ≤ 320) (C0 : lw_At p s m meth c b L xs) : W p l e room_1 s m #[Value.ref b] below meth c s.heap [] 0 0 (lw_Z below #[Value.ref b] s) (entryFrame m ([Value.ref b] : List Value).toArray 4) := by
  obtain ⟨hx, hb, hr, hml, hown, hts, hX, hbl, hlocks, hgv⟩ := id C0
  have hs := flat_of_before _ hgv
  obtain ⟨c0, iS0, hKn0⟩ := u_known (C := RX0) (T := TX0) (N := 2) (n := 2) hts inX0 (hts (.instantiable RX0 2) (by decide +kernel))
  obtain ⟨c1, iS1, hKn1⟩ := u_known (C := RX1) (T := TX1) (N := 2) (n := 2) hts inX1 (hts (.instantiable RX1 2) (by decide +kernel))
  obtain ⟨c2, iS2, hKn2⟩ := u_known (C := RX2) (T := TX2) (N := 2) (n := 2) hts inX2 (hts (.instantiable RX2 2) (by decide +kernel))
  obtain ⟨c3, iS3, hKn3⟩ := u_known (C := RX3) (T := TX3) (N := 1) (n := 1) hts inX3 (hts (.instantiable RX3 1) (by decide +kernel))
  obtain ⟨c4, iS4, hKn4⟩ := u_known (C := RX4) (T := TX4) (N := 1) (n := 1) hts inX4 (hts (.instantiable RX4 1) (by decide +kernel))
  obtain ⟨c5, iS5, hKn5⟩ := u_known (C := RX5) (T := TX5) (N := 3) (n := 3) hts inX5 (hts (.instantiable RX5 3) (by decide +kernel))
  obtain ⟨c6, iS6, hKn6⟩ := u_known (C := RX6) (T := TX6) (N := 6) (n := 6) hts inX6 (hts (.instantiable RX6 6) (by decide +kernel))
  obtain ⟨c7, iS7, hKn7⟩ := u_known (C := RX7) (T := TX7) (N := 6) (n := 6) hts inX7 (hts (.instantiable RX7 6) (by decide +kernel))
  obtain ⟨c8, iS8, hKn8⟩ := u_known (C := RX8) (T := TX8) (N := 1) (n := 1) hts inX8 (hts (.instantiable RX8 1) (by decide +kernel))
  obtain ⟨c9, iS9, hKn9⟩ := u_known (C := RX9) (T := TX9) (N := 7) (n := 7) hts inX9 (hts (.instantiable RX9 7) (by decide +kernel))
  obtain ⟨c10, iS10, hKn10⟩ := u_known (C := RX10) (T := TX10) (N := 11) (n := 11) hts inX10 (hts (.instantiable RX10 11) (by decide +kernel))
  obtain ⟨c11, iS11, hKn11⟩ := u_known (C := RX11) (T := TX11) (N := 13) (n := 13) hts inX11 (hts (.instantiable RX11 13) (by decide +kernel))
  obtain ⟨c12, iS12, hKn12⟩ := u_known (C := RX12) (T := TX12) (N := 34) (n := 34) hts inX12 (hts (.instantiable RX12 34) (by decide +kernel))
  obtain ⟨dC, dI, hKc⟩ : ∃ (dC : Nat → ClassId) (dI : Nat → Nat → Nat), ∀ (k : Nat) (q : vw_C), vwCl[k]? = some q → u_Kn s q.1 q.2.1 q.2.2 (dC k) (dI k) := by
    refine ⟨fun k => match k with | 0 => c0 | 1 => c1 | 2 => c2 | 3 => c3 | 4 => c4 | 5 => c5 | 6 => c6 | 7 => c7 | 8 => c8 | 9 => c9 | 10 => c10 | 11 => c11 | _ => c12, fun k => match k with | 0 => iS0 | 1 => iS1 | 2 => iS2 | 3 => iS3 | 4 => iS4 | 5 => iS5 | 6 => iS6 | 7 => iS7 | 8 => iS8 | 9 => iS9 | 10 => iS10 | 11 => iS11 | _ => iS12, ?_⟩
    intro k q hq
    match k, hq with
    | 0, hq => cases hq; exact hKn0
    | 1, hq => cases hq; exact hKn1
    | 2, hq => cases hq; exact hKn2
    | 3, hq => cases hq; exact hKn3
    | 4, hq => cases hq; exact hKn4
    | 5, hq => cases hq; exact hKn5
    | 6, hq => cases hq; exact hKn6
    | 7, hq => cases hq; exact hKn7
    | 8, hq => cases hq; exact hKn8
    | 9, hq => cases hq; exact hKn9
    | 10, hq => cases hq; exact hKn10
    | 11, hq => cases hq; exact hKn11
    | 12, hq => cases hq; exact hKn12
    | k + 13, hq => simp [vwCl] at hq
  obtain ⟨k0, hk0⟩ := lw_arrK (hts _ lw_arr.1) (fun C h => by cases h)
  obtain ⟨k1, hk1⟩ := lw_arrK (hts _ lw_arr.2.1) (fun C h => by cases h)
  obtain ⟨k2, hk2⟩ := lw_arrK (hts _ lw_arr.2.2.1) (fun C h => by cases h)
  obtain ⟨k3, hk3⟩ := lw_arrK2 (hts _ lw_arr.2.2.2)
  obtain ⟨κ, e0, e1, e2, e3⟩ : ∃ κ : Nat → ClassId, κ 0 = k0 ∧ κ 1 = k1 ∧ κ 2 = k2 ∧ κ 3 = k3 := ⟨fun k => match k with | 0 => k0 | 1 => k1 | 2 => k2 | _ => k3, rfl, rfl, rfl, rfl⟩
  have hK : va_K (dC, dI) vwCl (zk_tys κ) s := ⟨hKc, fun k q h => by
    match k, h with
    | 0, h => cases h; rw [e0]; exact hk0
    | 1, h => cases h; rw [e1]; exact hk1
    | 2, h => cases h; rw [e2]; exact hk2
    | 3, h => cases h; rw [e3]; exact hk3
    | k + 4, h => simp [zk_tys] at h⟩
  obtain ⟨t0, ht0⟩ := lw_sa (args := #[Value.ref b]) (s := s) (n := "BOUGH_LEAST") (vs := [0, 1, 0]) (N := 3) rfl (by decide) (hts _ (by decide +kernel)) (hts _ (by decide +kernel)) (hs _ (by decide +kernel)) (hs _ (by decide +kernel)) (fun j hj => by
    match j, hj with
    | 0, _ => exact hs _ (by decide +kernel)
    | 1, _ => exact hs _ (by decide +kernel)
    | 2, _ => exact hs _ (by decide +kernel)
    | j + 3, hj => omega)
  obtain ⟨t1, ht1⟩ := lw_sa (args := #[Value.ref b]) (s := s) (n := "BOUGH_GREATEST") (vs := [20, 60, 3]) (N := 3) rfl (by decide) (hts _ (by decide +kernel)) (hts _ (by decide +kernel)) (hs _ (by decide +kernel)) (hs _ (by decide +kernel)) (fun j hj => by
    match j, hj with
    | 0, _ => exact hs _ (by decide +kernel)
    | 1, _ => exact hs _ (by decide +kernel)
    | 2, _ => exact hs _ (by decide +kernel)
    | j + 3, hj => omega)
  obtain ⟨t2, ht2⟩ := lw_sa (args := #[Value.ref b]) (s := s) (n := "PLANK_LEAST") (vs := [0, 0, 1, 0, 0]) (N := 5) rfl (by decide) (hts _ (by decide +kernel)) (hts _ (by decide +kernel)) (hs _ (by decide +kernel)) (hs _ (by decide +kernel)) (fun j hj => by
    match j, hj with
    | 0, _ => exact hs _ (by decide +kernel)
    | 1, _ => exact hs _ (by decide +kernel)
    | 2, _ => exact hs _ (by decide +kernel)
    | 3, _ => exact hs _ (by decide +kernel)
    | 4, _ => exact hs _ (by decide +kernel)
    | j + 5, hj => omega)
  obtain ⟨t3, ht3⟩ := lw_sa (args := #[Value.ref b]) (s := s) (n := "PLANK_GREATEST") (vs := [7, 7, 40, 3, 3]) (N := 5) rfl (by decide) (hts _ (by decide +kernel)) (hts _ (by decide +kernel)) (hs _ (by decide +kernel)) (hs _ (by decide +kernel)) (fun j hj => by
    match j, hj with
    | 0, _ => exact hs _ (by decide +kernel)
    | 1, _ => exact hs _ (by decide +kernel)
    | 2, _ => exact hs _ (by decide +kernel)
    | 3, _ => exact hs _ (by decide +kernel)
    | 4, _ => exact hs _ (by decide +kernel)
    | j + 5, hj => omega)
  obtain ⟨t4, ht4⟩ := lw_sa (args := #[Value.ref b]) (s := s) (n := "CHILD_LEAST") (vs := [1, 0]) (N := 2) rfl (by decide) (hts _ (by decide +kernel)) (hts _ (by decide +kernel)) (hs _ (by decide +kernel)) (hs _ (by decide +kernel)) (fun j hj => by
    match j, hj with
    | 0, _ => exact hs _ (by decide +kernel)
    | 1, _ => exact hs _ (by decide +kernel)
    | j + 2, hj => omega)
  obtain ⟨t5, ht5⟩ := lw_sa (args := #[Value.ref b]) (s := s) (n := "CHILD_GREATEST") (vs := [9, 9]) (N := 2) rfl (by decide) (hts _ (by decide +kernel)) (hts _ (by decide +kernel)) (hs _ (by decide +kernel)) (hs _ (by decide +kernel)) (fun j hj => by
    match j, hj with
    | 0, _ => exact hs _ (by decide +kernel)
    | 1, _ => exact hs _ (by decide +kernel)
    | j + 2, hj => omega)
  have hro : ∀ α : Nat → Nat, α 1000 = t0 → α 1001 = t1 → α 1002 = t2 → α 1003 = t3 → α 1004 = t4 → α 1005 = t5 → zk_ro α (lw_A0 s) s s.heap := fun α a0 a1 a2 a3 a4 a5 => ⟨fun q hq => va_Nw.of rfl (hts _ (lw_nst q hq)), fun j q hq => by
    match j, hq with
    | 0, hq => cases hq; rw [show 1000 + 0 = 1000 from rfl, a0]; exact ht0
    | 1, hq => cases hq; rw [show 1000 + 1 = 1001 from rfl, a1]; exact ht1
    | 2, hq => cases hq; rw [show 1000 + 2 = 1002 from rfl, a2]; exact ht2
    | 3, hq => cases hq; rw [show 1000 + 3 = 1003 from rfl, a3]; exact ht3
    | 4, hq => cases hq; rw [show 1000 + 4 = 1004 from rfl, a4]; exact ht4
    | 5, hq => cases hq; rw [show 1000 + 5 = 1005 from rfl, a5]; exact ht5
    | j + 6, hq => simp [zk_stt] at hq⟩
  have hA : ∀ q : Nat, s.heap.size ≤ q → lw_A0 s q := fun _ h => h
  have hS : va_S (lw_A0 s) s.heap s.heap [] := va_S.rf
  have hP : va_P (dC, dI) vwCl [] s.heap := fun k q h => by simp at h
  have hD : va_D (lw_A0 s) [] := ⟨fun i j p q h => by simp at h, fun k q h => by simp at h⟩
  have hl := lv_entry ([.ref b]) (n := 4) (Nat.le_of_ble_eq_true rfl)
  rw [lg_entry_eq]
  generalize (lg_sl ([.ref b]) ++ List.replicate (4 - (lg_sl ([.ref b])).length) Slot.unset).toArray = ls at hl ⊢
  have hl : lv_has ls 4 [(0, .ref b)] := hl
  refine va_new (ci := 11) (fs := [.null, .null, .null, .null, .null, .null, .null, .null, .null, .null, .null, .null, .long 0]) hx hb hts inX11 tyX11 tyX11_ok hown (hts (.classLink RL 7 RX11) (by decide +kernel)) (hts (.instantiable RX11 13) (by decide +kernel)) (hts (.initialized RX11) (by decide +kernel)) hK hP hD hS hA rfl zdf_X11 (by decide) (by decide) dL_law_0 (fun q0 H hP hD hS => ?_)
  refine lv_dup hx hb dL_law_3 rfl ?_
  obtain ⟨α0, ea, eb⟩ : ∃ α0 : Nat → Nat, α0 0 = q0 ∧ (α0 1000 = t0 ∧ α0 1001 = t1 ∧ α0 1002 = t2 ∧ α0 1003 = t3 ∧ α0 1004 = t4 ∧ α0 1005 = t5) := ⟨fun k => if k = 0 then q0 else match k with | 1000 => t0 | 1001 => t1 | 1002 => t2 | 1003 => t3 | 1004 => t4 | 1005 => t5 | _ => 0, rfl, rfl, rfl, rfl, rfl, rfl, rfl⟩
  refine lw_ctor (q0 := q0) (rest := [.ref q0]) hx hb hml hown hts hl.1 dL_law_4 zl_X11_init zc_L_9 rfl rfl zI_Tp_0 (by decide) (Nat.le_of_ble_eq_true rfl) hK ea (hro α0 eb.1 eb.2.1 eb.2.2.1 eb.2.2.2.1 eb.2.2.2.2.1 eb.2.2.2.2.2) (fun c hc => by rw [List.mem_singleton.mp hc]; intro k hk; simp at hk) hS (hD.2 0 _ rfl) (fun k x hk => by
    have h1 := (List.getElem?_eq_some_iff.mp hk).1
    unfold zk_cw at h1
    simp at h1
    subst h1
    rw [zk_cw_get (c := .inr (11, [.null, .null, .null, .null, .null, .null, .null, .null, .null, .null, .null, .null, .long 0])) rfl, ea] at hk
    cases hk
    exact hP 0 _ rfl) (by decide) (fun α H1 locs1 h0 hj hPx hDx hkx hSx => ?_)
  have hdx : ∀ q, (q = q0 ∨ H.size ≤ q) → lw_A0 s q := fun q h => by
    rcases h with h | h
    · subst h; exact hD.2 0 _ rfl
    · exact Nat.le_trans hS.1 h
  have ew : zk_cw α κ zX_cs = zk_w zSX α κ zX_mem := zk_ab_w zSX α κ zX_mem
  rw [ew] at hPx hDx
  have hDx : va_D (lw_A0 s) (zk_w zSX α κ zX_mem) := ⟨hDx.1, fun k q h => hdx _ (hDx.2 k q h)⟩
  clear hP hD hS hkx
  refine lv_astore_n (lv' := [(1, .ref q0), (0, .ref b)]) hx hb dL_law_7 rfl hl (by decide) rfl (fun ls hl => ?_)
  refine va_new (ci := 12) (fs := zfs12) hx hb hts inX12 tyX12 tyX12_ok hown (hts (.classLink RL 10 RX12) (by decide +kernel)) (hts (.instantiable RX12 34) (by decide +kernel)) (hts (.initialized RX12) (by decide +kernel)) hK hPx hDx hSx hA rfl zdf12 (by decide) (by decide) dL_law_8 (fun q1 H2 hP hD hS => ?_)
  refine lv_dup hx hb dL_law_11 rfl ?_
  have hlen : (zk_w zSX α κ zX_mem).length = 64 := by unfold zk_w; rw [List.length_map, List.length_range]; rfl
  have hq1 : ((zk_w zSX α κ zX_mem) ++ [(q1, .inr (12, zfs12))])[64]? = some (q1, .inr (12, zfs12)) := by rw [List.getElem?_append_right (by rw [hlen]; exact Nat.le_refl _), hlen]; rfl
  obtain ⟨β0, fa, fb⟩ : ∃ α0 : Nat → Nat, α0 0 = q1 ∧ (α0 1000 = t0 ∧ α0 1001 = t1 ∧ α0 1002 = t2 ∧ α0 1003 = t3 ∧ α0 1004 = t4 ∧ α0 1005 = t5) := ⟨fun k => if k = 0 then q1 else match k with | 1000 => t0 | 1001 => t1 | 1002 => t2 | 1003 => t3 | 1004 => t4 | 1005 => t5 | _ => 0, rfl, rfl, rfl, rfl, rfl, rfl, rfl⟩
  refine lw_ctor (q0 := q1) (rest := [.ref q1]) hx hb hml hown hts hl.1 dL_law_12 zl_X12_init zc_L_12 rfl rfl (cell0 := .inr (12, zfs12)) zI_Md_0 (by decide) (Nat.le_of_ble_eq_true rfl) hK fa (hro β0 fb.1 fb.2.1 fb.2.2.1 fb.2.2.2.1 fb.2.2.2.2.1 fb.2.2.2.2.2) (fun c hc => by rw [List.mem_singleton.mp hc]; intro k hk; simp [zfs12] at hk) hS (hD.2 64 _ hq1) (fun k x hk => by
    have h1 := (List.getElem?_eq_some_iff.mp hk).1
    unfold zk_cw at h1
    simp at h1
    subst h1
    rw [zk_cw_get (c := .inr (12, zfs12)) rfl, fa] at hk
    cases hk
    exact hP 64 _ hq1) (by decide) (fun β H3 locs3 g0 gj hPm hDm hkm hSm => ?_)
  have ewm : zk_cw β κ zM_cs = zk_w zSM β κ zM_mem := zk_ab_w zSM β κ zM_mem
  rw [ewm] at hPm hDm
  have hin : ∀ (k : Nat) (q : Nat × va_E), (zk_w zSX α κ zX_mem)[k]? = some q → ((zk_w zSX α κ zX_mem) ++ [(q1, .inr (12, zfs12))])[k]? = some q := fun k q h => by rw [List.getElem?_append_left (List.getElem?_eq_some_iff.mp h).1]; exact h
  have hne : ∀ (k : Nat) (q : Nat × va_E), (zk_w zSX α κ zX_mem)[k]? = some q → q.1 < H2.size ∧ q.1 ≠ q1 := fun k q h => by
    refine ⟨(hP k q (hin k q h)).lt, fun e9 => ?_⟩
    have h1 := hD.1 k 64 q _ (hin k q h) hq1 e9
    have h2 := (List.getElem?_eq_some_iff.mp h).1
    rw [hlen] at h2
    omega
  refine lv_astore_n (lv' := [(2, .ref q1), (1, .ref q0), (0, .ref b)]) hx hb dL_law_15 rfl hl (by decide) rfl (fun ls hl => ?_)
  refine lv_iconst (v := 0) hx hb dL_law_16 zki_0 ?_
  refine lv_istore_n (lv' := [(3, .int 0), (2, .ref q1), (1, .ref q0), (0, .ref b)]) hx hb dL_law_17 rfl hl (by decide) rfl (fun ls hl => ?_)
  refine W.widen (k := 84) (n := 2370) (by decide) (by decide) ?_
  refine law_loop hL C0 hK (L + 1) 0 0 rfl (by omega) (by omega) zX_mem zM_mem α β H3 locs3 pr_init ⟨?_, hDx, hPm, ⟨hDm.1, fun k q h => ?_⟩, fun i j hi hj' e9 => ?_, hSm, hro α ((hj 0).trans eb.1) ((hj 1).trans eb.2.1) ((hj 2).trans eb.2.2.1) ((hj 3).trans eb.2.2.2.1) ((hj 4).trans eb.2.2.2.2.1) ((hj 5).trans eb.2.2.2.2.2), hro β ((gj 0).trans fb.1) ((gj 1).trans fb.2.1) ((gj 2).trans fb.2.2.1) ((gj 3).trans fb.2.2.2.1) ((gj 4).trans fb.2.2.2.2.1) ((gj 5).trans fb.2.2.2.2.2)⟩ ls (by rw [h0, g0]; exact lv_sub hl [3, 2, 1, 0] rfl)
  · exact fun k q h => (hP k q (hin k q h)).kept (hkm q.1 (hne k q h).1 (hne k q h).2)
  · rcases hDm.2 k q h with h9 | h9
    · rw [h9]; exact hD.2 64 _ hq1
    · exact Nat.le_trans hS.1 h9
  · have h1 := hne i _ (zk_w_get (S := zSX) hi)
    rcases hDm.2 j _ (zk_w_get (S := zSM) hj') with h9 | h9
    · exact h1.2 (e9.trans h9)
    · have h2 : α i = β j := e9
      have h3 := h1.1
      have h4 : H2.size ≤ β j := h9
      have h5 : α i < H2.size := h3
      omega
-- the claim, as the skeleton has it
set_option maxHeartbeats 4000000 in
theorem lw_walk (l : Launch) (b : Addr) (xs : List Int32) : MetFree l x (headSpec (Jvm.Cond.code x code maxLocals ret :: tables_1) room_1) (lw_P b xs) (fun _ _ _ _ _ => True) lw_Q := by
  refine MetFree.of_bodyS (code := code) (maxLocals := maxLocals) (ret := ret) (by decide) ?_ ?_
  · intro args s m h hn
    obtain ⟨meth, c, h1, h2, h3, h4, h5, h6, -, -⟩ := Cond.code_spec hn (atoms_spec (ws := Jvm.Cond.code x code maxLocals ret :: tables_1) h _ List.mem_cons_self)
    exact ⟨meth, c, h1, h2, h3, h4, h5, h6⟩
  · intro p e s m args below meth c s₁ B hml0 hP _
    obtain ⟨rfl, hx, hbd, hgv⟩ := hP
    obtain ⟨scr, harrAt, hlist, hof, hsmall⟩ := hx
    obtain ⟨hcb, hkn, -, -⟩ := State.arrayAt?_spec harrAt
    have hown : s.vm.findClass R_law = some m.cls := findClass_of_methodNamed B.named
    have hts0 : ∀ c ∈ (Jvm.Cond.code x code maxLocals ret :: tables_1), c.before #[Value.ref b] s = true := atoms_spec (ws := Jvm.Cond.code x code maxLocals ret :: tables_1) B.pre
    have hts : ∀ w ∈ lw_tbl, w.before #[Value.ref b] s = true := k2_hts_sels lw_privs (fun w hw => hts0 w (List.mem_cons_of_mem _ hw)) lw_privs_ok
    have hml : c.maxLocals = 4 := B.maxLocals_eq (hts0 _ List.mem_cons_self)
    have X₀ : Stand p l e room_1 s m #[Value.ref b] below meth c s₁ [] 0 0 := Stand.of_body B
    have hh0 : s₁.heap = s.heap := by rw [B.state]; rfl
    have hsz : scr.slots.size = xs.length := by rw [← Array.length_toList, hlist, List.length_map]
    have hval : ∀ j : Nat, j < xs.length → scr.slots[j]? = some (.int (xs.getD j 0)) := fun j hj => by
      rw [← Array.getElem?_toList, hlist]
      simp [hj]
    have hbl : b < s.heap.size := (Array.getElem?_eq_some_iff.mp hcb).1
    have hX : va_X b xs.length (fun j => xs.getD j 0) s s.heap := ⟨scr, hcb, hof, hkn, hsz, hval⟩
    have K : W p l e room_1 s m #[Value.ref b] below meth c s₁.heap [] 0 0 (lw_Z below #[Value.ref b] s) (entryFrame m ([Value.ref b] : List Value).toArray 4) := by
      rw [hh0]
      exact whole_start l hbd ⟨B.exec, B.bytes, B.returns, hml, hown, hts, hX, hbl, B.notSynchronized, hgv⟩
    obtain ⟨t, a1, o, b1, b2, b3⟩ := K s₁ rfl X₀
    exact ⟨t, o, a1, b1, b2, b3⟩
theorem lw_pre_spec {args : Array Value} {s : State} (h : (Jvm.Cond.and given_1 narrow_1).before args s = true) (hr : rest_1_c.before args s = true) : ∃ (b : Addr) (xs : List Int32), lw_P b xs args s := by
  have hs := flat_of_before _ h
  have hq := flat_of_before _ hr
  have hc : (Cond.count 1).before args s = true := hs _ (by decide +kernel)
  have harr : (Cond.arrayOf (.arg 0) .int).before args s = true := hs _ (by decide +kernel)
  have hle : (Cond.le (.length (.arg 0)) (.int 320)).before args s = true := hs _ (by decide +kernel)
  have hlen : (Cond.isInt (.length (.arg 0))).before args s = true := hq _ (by decide +kernel)
  have hall : (Cond.all (.arg 0) (.isInt (.elem (.arg 0) (.index 0)))).before args s = true := hq _ (by decide +kernel)
  obtain ⟨b, xs, hb, hx⟩ := State.ints_of_pre rfl harr hlen hall
  have hsm : xs.length < 2 ^ 31 := hx.choose_spec.2.2.2
  have hev : (Term.length (.arg 0)).eval args s none [] s = some (.int xs.length.toInt32) := hx.length_eval hb
  have hv := Cond.le_ints hev (show (Term.int 320).eval args s none [] s = some (.int 320) from rfl)
  have hd : xs.length.toInt32 ≤ 320 := by
    simpa [Cond.before, Cond.holds, hv] using hle
  have hN : xs.length ≤ 320 := (Int32.ofNat_le_ofNat hsm (by decide)).mp (show Int32.ofNat xs.length ≤ Int32.ofNat 320 from hd)
  exact ⟨b, xs, Cond.one_arg hc (show args[0]? = some (.ref b) from hb), hx, hN, h⟩
theorem lw_comes (l : Launch) : Comes l x (Jvm.Cond.code x code maxLocals ret :: tables_1) room_1 (fun tb e args s => Calls_1 tb e args s ∧ rest_1 tb e args s ∧ Pre_1 tb e args s)
    (fun _ _ args s o t => lw_Q args s o t) := by
  intro p e ha hc hk s m args below hf hfit hheap happ hpre
  obtain ⟨b, xs, hP⟩ := lw_pre_spec hpre.2.2 hpre.2.1
  obtain ⟨k, o, h1, h2, h3, hQ⟩ := lw_walk l b xs p e ha hc hk s m args below hf ((Spec.applies_iff_loose hf).mp happ).1 hP trivial
  exact ⟨k, o, h1, h2, h3, hQ⟩
theorem lw_frame {s t : State} {o : Outcome} {args : Array Value} (h : Framed s o t [] 600000 7302249) :
    Framed s o t (fieldLocs frame_1_writes args s ++ arrayLocs frame_1_arrays args s ++ staticLocs frame_1_statics s) 600000 7302249 := h
theorem lw_limb (L : Cond) (hL : ∀ (args : Array Value) (s t : State), L.after args s (.returned (some (.int 1))) t = true) :
    ArmFor flags0 classFile x code maxLocals ret World_1 tables_1 room_1 Calls_1 rest_1 Pre_1
      (fun tb e a s o t => postC L tb e a s o t ∧ Framed s o t (fieldLocs frame_1_writes a s ++ arrayLocs frame_1_arrays a s ++ staticLocs frame_1_statics s) 600000 7302249) := by
  intro l _ _ _ p e ha hc hk s m args below hf hfit hheap happ hpre
  obtain ⟨k, o, h1, h2, h3, rfl, hF⟩ := lw_comes l p e ha hc hk s m args below hf hfit hheap happ hpre
  exact ⟨k, _, h1, h2, h3, hL args s _, lw_frame hF⟩
theorem i_vc : Claimed_1_1 ∧ Claimed_1_2 := ⟨lw_limb limb_1_1 (fun args s t => by simp [limb_1_1, Cond.after, Cond.holds, Cond.value]), lw_limb limb_1_2 (fun args s t => Cond.after_iff.mpr (by
  first | (rw [show limb_1_2 = Cond.eq .result (.int 1) from rfl, Cond.eq_ints (x := 1) (y := 1) rfl rfl]; simp; done) | (simp [limb_1_2, Cond.value, Term.eval]; done)))⟩
