/-! THE LAYER OF ABSTRACT STATES: a memory of ints and longs by (cell, place); a fixed shape; the machine's world is what the memory says -/
abbrev zkM : Type := (Nat → Nat → Int32) × (Nat → Nat → Int64)
/-- a system: how many cells; what each is: an array (length, kind: 0 int, 1 boolean, 2 long, 3 int[]) or an object of a kind; where references lead -/
abbrev zkS : Type := Nat × (Nat → Option ((Nat × Nat) ⊕ Nat)) × (Nat → Nat → Nat)
abbrev zkY : Type := MethodName × ByteArray × Nat × Option FieldType
def zk_ty : Nat → Nat → FieldType := fun ci => match ci with
  | 0 => tyX0
  | 1 => tyX1
  | 2 => tyX2
  | 3 => tyX3
  | 4 => tyX4
  | 5 => tyX5
  | 6 => tyX6
  | 7 => tyX7
  | 8 => tyX8
  | 9 => tyX9
  | 10 => tyX10
  | 11 => tyX11
  | _ => tyX12
def zk_nf : Nat → Nat := fun ci => match ci with
  | 0 => 2
  | 1 => 2
  | 2 => 2
  | 3 => 1
  | 4 => 1
  | 5 => 3
  | 6 => 6
  | 7 => 6
  | 8 => 1
  | 9 => 7
  | 10 => 11
  | 11 => 13
  | _ => 34
def zk_cv (α : Nat → Nat) (v : Value) : Value := match v with
  | .ref k => .ref (α k)
  | v => v
def zk_b (b : Bool) : Int32 := match b with
  | true => 1
  | false => 0
def zk_u (mem : zkM) (k i : Nat) (x : Int32) : zkM := (fun a b => if a = k ∧ b = i then x else mem.1 a b, mem.2)
def zk_ul (mem : zkM) (k i : Nat) (x : Int64) : zkM := (mem.1, fun a b => if a = k ∧ b = i then x else mem.2 a b)
def zk_cp (mem : zkM) (k0 k1 sp dp n : Nat) : zkM := (fun a b => if a = k1 ∧ dp ≤ b ∧ b < dp + n then mem.1 k0 (sp + (b - dp)) else mem.1 a b, mem.2)
def zk_fv (S : zkS) (α : Nat → Nat) (mem : zkM) (k ci f : Nat) : Value := match zk_ty ci f with
  | .int => .int (mem.1 k f)
  | .boolean => .int (mem.1 k f)
  | .long => .long (mem.2 k f)
  | _ => .ref (α (S.2.2 k f))
def zk_arr (S : zkS) (α : Nat → Nat) (κ : Nat → ClassId) (mem : zkM) (k n : Nat) (q : Nat) : va_E := match q with
  | 0 => .inl (κ 0, n, .inl (mem.1 k))
  | 1 => .inl (κ 1, n, .inl (mem.1 k))
  | 2 => .inl (κ 2, n, .inr (.inl (mem.2 k)))
  | _ => .inl (κ 3, n, .inr (.inr (.inr (.inr (fun i => if i < n then some (α (S.2.2 k i)) else none)))))
def zk_cell (S : zkS) (α : Nat → Nat) (κ : Nat → ClassId) (mem : zkM) (k : Nat) : va_E := match S.2.1 k with
  | some (.inl z) => zk_arr S α κ mem k z.1 z.2
  | some (.inr ci) => .inr (ci, (List.range (zk_nf ci)).map (zk_fv S α mem k ci))
  | none => .inr (0, [])
def zk_w (S : zkS) (α : Nat → Nat) (κ : Nat → ClassId) (mem : zkM) : va_W := (List.range S.1).map (fun k => (α k, zk_cell S α κ mem k))
def zk_tys (κ : Nat → ClassId) : List (ClassId × FieldType) := [(κ 0, .int), (κ 1, .boolean), (κ 2, .long), (κ 3, .array .int)]
/-- the tables' words that hold on -/
def zk_tb : List Cond := lw_tbl.filter goodWord
theorem zk_in {w : Cond} (h : w ∈ lw_tbl) (g : goodWord w = true) : w ∈ zk_tb := List.mem_filter.mpr ⟨h, g⟩
def zk_ws (M : zkY) : List Cond := .code M.1 M.2.1 M.2.2.1 M.2.2.2 :: zk_tb
def zk_nst : List (String × Nat × MethodName × String) := [(RX9, 74, yX11_within, "TreePlanks"), (RX1, 36, yX11_within, "TreePlanks"), (RX8, 49, yX11_growth, "TreePlanks"), (RX8, 56, yX11_givesAt, "TreePlanks"), (RX2, 24, yX11_givesAt, "TreePlanks"), (RX2, 38, yX11_growth, "TreePlanks")]
def zk_stt : List (String × List Int32) := [("BOUGH_LEAST", [0, 1, 0]), ("BOUGH_GREATEST", [20, 60, 3]), ("PLANK_LEAST", [0, 0, 1, 0, 0]), ("PLANK_GREATEST", [7, 7, 40, 3, 3]), ("CHILD_LEAST", [1, 0]), ("CHILD_GREATEST", [9, 9])]
def zk_ro (α : Nat → Nat) (A : Nat → Prop) (U : State) (H : Heap) : Prop :=
  (∀ q ∈ zk_nst, va_Nw (.methodLinkNest q.1 q.2.1 q.2.2.1 q.2.2.2) U) ∧
  ∀ (j : Nat) (q : String × List Int32), zk_stt[j]? = some q → va_Z "TreePlanks$Script" q.1 "[I" (.ref (α (1000 + j))) A U H ∧ va_T .int (α (1000 + j)) q.2.length (fun i => .int (q.2.getD i 0)) A U H
def zk_B (S : zkS) (D : va_G) (α : Nat → Nat) (κ : Nat → ClassId) (A : Nat → Prop) (mem : zkM) (U : State) : Prop :=
  va_P D vwCl (zk_w S α κ mem) U.heap ∧ va_K D vwCl (zk_tys κ) U ∧ va_D A (zk_w S α κ mem) ∧ zk_ro α A U U.heap
def zk_Q (S : zkS) (D : va_G) (α : Nat → Nat) (κ : Nat → ClassId) (A : Nat → Prop) (r : Option Value × zkM) : Array Value → State → Outcome → State → Prop :=
  fun _ st oc t => oc = .returned (r.1.map (zk_cv α)) ∧ zk_B S D α κ A r.2 t ∧ va_F A st t
def zk_room (d : Nat) : Room := { frames := d + 1, cells := 0, slots := 0, locals := 64 * d + 64 }
/-- a method's contract: called with 'as' at the memory 'mem' it ends with r: its answer, the memory behind it -/
def zk_X (S : zkS) (d : Nat) (M : zkY) (as : List Value) (mem : zkM) (r : Option Value × zkM) : Prop :=
  ∀ (l : Launch) (D : va_G) (α : Nat → Nat) (κ : Nat → ClassId) (A : Nat → Prop), Met l M.1 (zk_ws M) (zk_room d) (va_Pc (as.map (zk_cv α)) (zk_B S D α κ A mem)) (zk_Q S D α κ A r) 0 0 A
def zk_lv (α : Nat → Nat) (nL : Nat) (ls : Array Slot) (lv : List (Option Value)) : Prop := ls.size = nL ∧ lv_wf ls ∧ ∀ (i : Nat) (v : Value), lv[i]? = some (some v) → ls[i]? = some (.val (zk_cv α v))
def zk_F (M : zkY) (p : Program) (s : State) (m : MethodId) (args : Array Value) (meth : Method) (c : Code) (D : va_G) (α : Nat → Nat) (κ : Nat → ClassId) (A : Nat → Prop) : Prop :=
  p.tables.exec = Jvm.exec ∧ c.code = M.2.1 ∧ c.maxLocals = M.2.2.1 ∧ meth.sig.returnType = M.2.2.2 ∧ meth.locks = false ∧ s.vm.findClass M.1.cls = some m.cls ∧ (∀ w ∈ zk_ws M, w.before args s = true) ∧ va_K D vwCl (zk_tys κ) s ∧ zk_ro α A s s.heap
abbrev zkZ : Type := va_G → (Nat → Nat) → (Nat → ClassId) → (Nat → Prop) → Array Value → State → Outcome → State → Prop
abbrev zk_R (S : zkS) (r : Option Value × zkM) : zkZ := fun D α κ A => zk_Q S D α κ A r
/-- the machine, at pc with these locals and this stack, over the memory mem, comes to the method's end as Z has it -/
def zk_J (S : zkS) (d : Nat) (M : zkY) (Z : zkZ) (pc : Nat) (lv : List (Option Value)) (st : List Value) (mem : zkM) : Prop :=
  ∀ (p : Program) (l : Launch) (e : Env) (s : State) (m : MethodId) (args : Array Value) (below : List Frame) (meth : Method) (c : Code) (D : va_G) (α : Nat → Nat) (κ : Nat → ClassId) (A : Nat → Prop) (H : Heap) (locs : List Loc) (ls : Array Slot),
    zk_F M p s m args meth c D α κ A → va_P D vwCl (zk_w S α κ mem) H → va_D A (zk_w S α κ mem) → va_S A s.heap H locs → zk_lv α M.2.2.1 ls lv →
    W p l e (zk_room d) s m args below meth c H locs 0 0 (MQ below (Z D α κ A) args s 0 0 A) (F0 m pc ls (st.map (zk_cv α)))
theorem zk_cv_cat (α : Nat → Nat) (v : Value) : (zk_cv α v).category = v.category := by cases v <;> rfl
theorem zk_cat (α : Nat → Nat) (st : List Value) : ((st.map (zk_cv α)).map fun v => v.category) = st.map fun v => v.category := by
  rw [List.map_map]
  exact List.map_congr_left (fun v _ => zk_cv_cat α v)
theorem zk_w_get {S : zkS} {α : Nat → Nat} {κ : Nat → ClassId} {mem : zkM} {k : Nat} (h : k < S.1) : (zk_w S α κ mem)[k]? = some (α k, zk_cell S α κ mem k) := by
  unfold zk_w
  rw [List.getElem?_map, List.getElem?_range h]
  rfl
theorem zk_w_set {S : zkS} {α : Nat → Nat} {κ : Nat → ClassId} {mem mem' : zkM} {k : Nat} {x : va_E} (hk : zk_cell S α κ mem' k = x) (ho : ∀ j, j ≠ k → zk_cell S α κ mem' j = zk_cell S α κ mem j) : (zk_w S α κ mem).set k (α k, x) = zk_w S α κ mem' := by
  subst hk
  apply List.ext_getElem?
  intro j
  unfold zk_w
  rw [List.getElem?_set]
  by_cases h : k = j
  · subst h
    by_cases hl : k < S.1
    · simp [hl]
    · simp [hl]
  · rw [if_neg h, List.getElem?_map, List.getElem?_map]
    by_cases hl : j < S.1
    · rw [List.getElem?_range hl]
      simp [ho j (fun q => h q.symm)]
    · rw [List.getElem?_eq_none (by simpa using hl)]
      rfl
theorem zk_cell_obj {S : zkS} {α : Nat → Nat} {κ : Nat → ClassId} {mem : zkM} {k ci : Nat} (h : S.2.1 k = some (.inr ci)) : zk_cell S α κ mem k = .inr (ci, (List.range (zk_nf ci)).map (zk_fv S α mem k ci)) := by
  unfold zk_cell
  rw [h]
theorem zk_cell_arr {S : zkS} {α : Nat → Nat} {κ : Nat → ClassId} {mem : zkM} {k n q : Nat} (h : S.2.1 k = some (.inl (n, q))) : zk_cell S α κ mem k = zk_arr S α κ mem k n q := by
  unfold zk_cell
  rw [h]
/-- a cell's picture hangs on its own row of the memory alone -/
theorem zk_cell_congr {S : zkS} {α : Nat → Nat} {κ : Nat → ClassId} {mem mem' : zkM} {k : Nat} (h1 : mem'.1 k = mem.1 k) (h2 : mem'.2 k = mem.2 k) : zk_cell S α κ mem' k = zk_cell S α κ mem k := by
  unfold zk_cell zk_arr zk_fv
  rw [h1, h2]
theorem zk_u_off {mem : zkM} {k i j : Nat} {x : Int32} (h : j ≠ k) : (zk_u mem k i x).1 j = mem.1 j := by
  funext b
  simp [zk_u, h]
theorem zk_u_on {mem : zkM} {k i : Nat} {x : Int32} : (zk_u mem k i x).1 k = upd (mem.1 k) i x := by
  funext b
  simp [zk_u, upd]
theorem zk_ul_off {mem : zkM} {k i j : Nat} {x : Int64} (h : j ≠ k) : (zk_ul mem k i x).2 j = mem.2 j := by
  funext b
  simp [zk_ul, h]
theorem zk_ul_on {mem : zkM} {k i : Nat} {x : Int64} : (zk_ul mem k i x).2 k = vp_updL (mem.2 k) i x := by
  funext b
  simp [zk_ul, vp_updL]
theorem zk_cp_off {mem : zkM} {k0 k1 sp dp n j : Nat} (h : j ≠ k1) : (zk_cp mem k0 k1 sp dp n).1 j = mem.1 j := by
  funext b
  simp [zk_cp, h]
theorem zk_cp_on {mem : zkM} {k0 k1 sp dp n : Nat} : (zk_cp mem k0 k1 sp dp n).1 k1 = va_cpy (mem.1 k0) (mem.1 k1) sp dp n := by
  funext b
  simp [zk_cp, va_cpy]
/-! locals -/
def zk_pr (α : Nat → Nat) (lv : List (Option Value)) : List (Nat × Value) := lv.zipIdx.filterMap (fun q => q.1.map (fun v => (q.2, zk_cv α v)))
theorem zk_pr_mem {α : Nat → Nat} {lv : List (Option Value)} {i : Nat} {v : Value} (h : lv[i]? = some (some v)) : (i, zk_cv α v) ∈ zk_pr α lv :=
  List.mem_filterMap.mpr ⟨(some v, i), List.mem_zipIdx_iff_getElem?.mpr h, rfl⟩
theorem zk_pr_of {α : Nat → Nat} {lv : List (Option Value)} {q : Nat × Value} (h : q ∈ zk_pr α lv) : ∃ v, lv[q.1]? = some (some v) ∧ q.2 = zk_cv α v := by
  obtain ⟨⟨o, i⟩, h1, h2⟩ := List.mem_filterMap.mp h
  have h3 := List.mem_zipIdx_iff_getElem?.mp h1
  cases o with
  | none => cases h2
  | some v => cases h2; exact ⟨v, h3, rfl⟩
theorem zk_lv.has {α : Nat → Nat} {nL : Nat} {ls : Array Slot} {lv : List (Option Value)} (h : zk_lv α nL ls lv) : lv_has ls nL (zk_pr α lv) :=
  ⟨h.1, h.2.1, fun q hq => by obtain ⟨v, h1, h2⟩ := zk_pr_of hq; rw [h2]; exact h.2.2 _ _ h1⟩
def zk_nl (lv : List (Option Value)) (i : Nat) : Bool := match i with
  | 0 => true
  | j + 1 => match lv[j]? with
    | some (some v) => v.category == 1
    | _ => true
theorem zk_lv.st1 {α : Nat → Nat} {nL i : Nat} {ls' : Array Slot} {lv : List (Option Value)} {v : Value} (hc : zk_nl lv i = true)
    (h : lv_has ls' nL ((i, zk_cv α v) :: (zk_pr α lv).filter (fun q => !(q.1 == i) && !(q.1 + 1 == i && q.2.category == 2)))) : zk_lv α nL ls' (lv.set i (some v)) := by
  refine ⟨h.1, h.2.1, fun j w hj => ?_⟩
  rw [List.getElem?_set] at hj
  by_cases e : i = j
  · subst e
    rw [if_pos rfl] at hj
    split at hj
    · cases hj; exact h.2.2 _ List.mem_cons_self
    · cases hj
  · rw [if_neg e] at hj
    refine h.2.2 (j, zk_cv α w) (List.mem_cons_of_mem _ (List.mem_filter.mpr ⟨zk_pr_mem hj, ?_⟩))
    simp only [Bool.and_eq_true, Bool.not_eq_true', Bool.and_eq_false_iff, beq_eq_false_iff_ne, ne_eq]
    refine ⟨fun q => e q.symm, ?_⟩
    by_cases e2 : j + 1 = i
    · right
      subst e2
      simp only [zk_nl, hj, beq_iff_eq] at hc
      rw [zk_cv_cat, hc]
      decide
    · left; exact e2
theorem zk_lv.st2 {α : Nat → Nat} {nL i : Nat} {ls' : Array Slot} {lv : List (Option Value)} {v : Value} (hc : zk_nl lv i = true)
    (h : lv_has ls' nL ((i, zk_cv α v) :: (zk_pr α lv).filter (fun q => !(q.1 == i) && (!(q.1 == i + 1) && !(q.1 + 1 == i && q.2.category == 2))))) : zk_lv α nL ls' ((lv.set i (some v)).set (i + 1) none) := by
  refine ⟨h.1, h.2.1, fun j w hj => ?_⟩
  rw [List.getElem?_set] at hj
  by_cases e1 : i + 1 = j
  · rw [if_pos e1] at hj
    split at hj <;> cases hj
  rw [if_neg e1, List.getElem?_set] at hj
  by_cases e : i = j
  · subst e
    rw [if_pos rfl] at hj
    split at hj
    · cases hj; exact h.2.2 _ List.mem_cons_self
    · cases hj
  · rw [if_neg e] at hj
    refine h.2.2 (j, zk_cv α w) (List.mem_cons_of_mem _ (List.mem_filter.mpr ⟨zk_pr_mem hj, ?_⟩))
    simp only [Bool.and_eq_true, Bool.not_eq_true', Bool.and_eq_false_iff, beq_eq_false_iff_ne, ne_eq]
    refine ⟨fun q => e q.symm, fun q => e1 q.symm, ?_⟩
    by_cases e2 : j + 1 = i
    · right
      subst e2
      simp only [zk_nl, hj, beq_iff_eq] at hc
      rw [zk_cv_cat, hc]
      decide
    · left; exact e2
/-- fewer known locals -/
def zk_le : List (Option Value) → List (Option Value) → Prop
  | [], _ => True
  | none :: a, _ :: b => zk_le a b
  | some v :: a, some w :: b => v = w ∧ zk_le a b
  | _, _ => False
theorem zk_le_get : ∀ {a b : List (Option Value)} {i : Nat} {v : Value}, zk_le a b → a[i]? = some (some v) → b[i]? = some (some v)
  | [], _, i, v, _, h => by simp at h
  | none :: a, [], i, v, hl, h => by simp [zk_le] at hl
  | none :: a, y :: b, 0, v, hl, h => by simp at h
  | none :: a, y :: b, i + 1, v, hl, h => by
    rw [List.getElem?_cons_succ] at h ⊢
    exact zk_le_get (a := a) (by simpa [zk_le] using hl) h
  | some x :: a, [], i, v, hl, h => by simp [zk_le] at hl
  | some x :: a, none :: b, i, v, hl, h => by simp [zk_le] at hl
  | some x :: a, some y :: b, 0, v, hl, h => by
    simp only [zk_le] at hl
    rw [← hl.1]; exact h
  | some x :: a, some y :: b, i + 1, v, hl, h => by
    simp only [zk_le] at hl
    rw [List.getElem?_cons_succ] at h ⊢
    exact zk_le_get (a := a) hl.2 h

theorem zk_weak {S : zkS} {d : Nat} {M : zkY} {Z : zkZ} {pc : Nat} {lv : List (Option Value)} {st : List Value} {mem : zkM} {lv' : List (Option Value)} (h : zk_le lv' lv) (k : zk_J S d M Z pc lv' st mem) : zk_J S d M Z pc lv st mem := by
  intro p l e s m args below meth c D α κ A H locs ls hF hP hD hS hl
  exact k p l e s m args below meth c D α κ A H locs ls hF hP hD hS ⟨hl.1, hl.2.1, fun i v h => hl.2.2 i v (zk_le_get ‹_› h)⟩
theorem zk_iconst {S : zkS} {d : Nat} {M : zkY} {Z : zkZ} {pc : Nat} {lv : List (Option Value)} {st : List Value} {mem : zkM} {n : Int} {v : Int32} (hd : decode M.2.1 pc = .ok (.iconst n, 1)) (hv : Int32.ofInt n = v) (k : zk_J S d M Z (pc + 1) lv (.int v :: st) mem) : zk_J S d M Z pc lv st mem := by
  intro p l e s m args below meth c D α κ A H locs ls hF hP hD hS hl
  exact lv_iconst hF.1 hF.2.1 hd hv (k p l e s m args below meth c D α κ A H locs ls hF hP hD hS hl)
theorem zk_bipush {S : zkS} {d : Nat} {M : zkY} {Z : zkZ} {pc : Nat} {lv : List (Option Value)} {st : List Value} {mem : zkM} {n : Int} {v : Int32} (hd : decode M.2.1 pc = .ok (.bipush n, 2)) (hv : (Int8.ofInt n).toInt32 = v) (k : zk_J S d M Z (pc + 2) lv (.int v :: st) mem) : zk_J S d M Z pc lv st mem := by
  intro p l e s m args below meth c D α κ A H locs ls hF hP hD hS hl
  exact lv_bipush hF.1 hF.2.1 hd hv (k p l e s m args below meth c D α κ A H locs ls hF hP hD hS hl)
theorem zk_sipush {S : zkS} {d : Nat} {M : zkY} {Z : zkZ} {pc : Nat} {lv : List (Option Value)} {st : List Value} {mem : zkM} {n : Int} {v : Int32} (hd : decode M.2.1 pc = .ok (.sipush n, 3)) (hv : (Int16.ofInt n).toInt32 = v) (k : zk_J S d M Z (pc + 3) lv (.int v :: st) mem) : zk_J S d M Z pc lv st mem := by
  intro p l e s m args below meth c D α κ A H locs ls hF hP hD hS hl
  exact lv_sipush hF.1 hF.2.1 hd hv (k p l e s m args below meth c D α κ A H locs ls hF hP hD hS hl)
theorem zk_lconst {S : zkS} {d : Nat} {M : zkY} {Z : zkZ} {pc : Nat} {lv : List (Option Value)} {st : List Value} {mem : zkM} {n : Fin 2} {v : Int64} (hd : decode M.2.1 pc = .ok (.lconst n, 1)) (hv : Int64.ofNat (n : Nat) = v) (k : zk_J S d M Z (pc + 1) lv (.long v :: st) mem) : zk_J S d M Z pc lv st mem := by
  intro p l e s m args below meth c D α κ A H locs ls hF hP hD hS hl
  exact lv_lconst hF.1 hF.2.1 hd hv (k p l e s m args below meth c D α κ A H locs ls hF hP hD hS hl)
theorem zk_iload_n {S : zkS} {d : Nat} {M : zkY} {Z : zkZ} {pc : Nat} {lv : List (Option Value)} {st : List Value} {mem : zkM} {j : Fin 4} {i : Nat} {x : Int32} (hd : decode M.2.1 pc = .ok (.iload_n j, 1)) (hi : (j : Nat) = i) (hv : lv[i]? = some (some (.int x))) (k : zk_J S d M Z (pc + 1) lv (.int x :: st) mem) : zk_J S d M Z pc lv st mem := by
  intro p l e s m args below meth c D α κ A H locs ls hF hP hD hS hl
  exact lv_iload_n hF.1 hF.2.1 hd hi (hl.2.2 i _ hv) (k p l e s m args below meth c D α κ A H locs ls hF hP hD hS hl)
theorem zk_iload {S : zkS} {d : Nat} {M : zkY} {Z : zkZ} {pc : Nat} {lv : List (Option Value)} {st : List Value} {mem : zkM} {i : Nat} {x : Int32} (hd : decode M.2.1 pc = .ok (.iload i, 2)) (hv : lv[i]? = some (some (.int x))) (k : zk_J S d M Z (pc + 2) lv (.int x :: st) mem) : zk_J S d M Z pc lv st mem := by
  intro p l e s m args below meth c D α κ A H locs ls hF hP hD hS hl
  exact lv_iload hF.1 hF.2.1 hd (hl.2.2 i _ hv) (k p l e s m args below meth c D α κ A H locs ls hF hP hD hS hl)
theorem zk_lload_n {S : zkS} {d : Nat} {M : zkY} {Z : zkZ} {pc : Nat} {lv : List (Option Value)} {st : List Value} {mem : zkM} {j : Fin 4} {i : Nat} {x : Int64} (hd : decode M.2.1 pc = .ok (.lload_n j, 1)) (hi : (j : Nat) = i) (hv : lv[i]? = some (some (.long x))) (k : zk_J S d M Z (pc + 1) lv (.long x :: st) mem) : zk_J S d M Z pc lv st mem := by
  intro p l e s m args below meth c D α κ A H locs ls hF hP hD hS hl
  exact lv_lload_n hF.1 hF.2.1 hd hi (hl.2.2 i _ hv) (k p l e s m args below meth c D α κ A H locs ls hF hP hD hS hl)
theorem zk_lload {S : zkS} {d : Nat} {M : zkY} {Z : zkZ} {pc : Nat} {lv : List (Option Value)} {st : List Value} {mem : zkM} {i : Nat} {x : Int64} (hd : decode M.2.1 pc = .ok (.lload i, 2)) (hv : lv[i]? = some (some (.long x))) (k : zk_J S d M Z (pc + 2) lv (.long x :: st) mem) : zk_J S d M Z pc lv st mem := by
  intro p l e s m args below meth c D α κ A H locs ls hF hP hD hS hl
  exact lv_lload hF.1 hF.2.1 hd (hl.2.2 i _ hv) (k p l e s m args below meth c D α κ A H locs ls hF hP hD hS hl)
theorem zk_aload_n {S : zkS} {d : Nat} {M : zkY} {Z : zkZ} {pc : Nat} {lv : List (Option Value)} {st : List Value} {mem : zkM} {j : Fin 4} {i : Nat} {x : Nat} (hd : decode M.2.1 pc = .ok (.aload_n j, 1)) (hi : (j : Nat) = i) (hv : lv[i]? = some (some (.ref x))) (k : zk_J S d M Z (pc + 1) lv (.ref x :: st) mem) : zk_J S d M Z pc lv st mem := by
  intro p l e s m args below meth c D α κ A H locs ls hF hP hD hS hl
  exact lv_aload_n hF.1 hF.2.1 hd hi (hl.2.2 i _ hv) (k p l e s m args below meth c D α κ A H locs ls hF hP hD hS hl)
theorem zk_aload {S : zkS} {d : Nat} {M : zkY} {Z : zkZ} {pc : Nat} {lv : List (Option Value)} {st : List Value} {mem : zkM} {i : Nat} {x : Nat} (hd : decode M.2.1 pc = .ok (.aload i, 2)) (hv : lv[i]? = some (some (.ref x))) (k : zk_J S d M Z (pc + 2) lv (.ref x :: st) mem) : zk_J S d M Z pc lv st mem := by
  intro p l e s m args below meth c D α κ A H locs ls hF hP hD hS hl
  exact lv_aload hF.1 hF.2.1 hd (hl.2.2 i _ hv) (k p l e s m args below meth c D α κ A H locs ls hF hP hD hS hl)
theorem zk_iadd {S : zkS} {d : Nat} {M : zkY} {Z : zkZ} {pc : Nat} {lv : List (Option Value)} {st : List Value} {mem : zkM} {x y : Int32} (hd : decode M.2.1 pc = .ok (.iadd, 1)) (k : zk_J S d M Z (pc + 1) lv (.int (x + y) :: st) mem) : zk_J S d M Z pc lv (.int y :: .int x :: st) mem := by
  intro p l e s m args below meth c D α κ A H locs ls hF hP hD hS hl
  exact lv_iadd hF.1 hF.2.1 hd (k p l e s m args below meth c D α κ A H locs ls hF hP hD hS hl)
theorem zk_isub {S : zkS} {d : Nat} {M : zkY} {Z : zkZ} {pc : Nat} {lv : List (Option Value)} {st : List Value} {mem : zkM} {x y : Int32} (hd : decode M.2.1 pc = .ok (.isub, 1)) (k : zk_J S d M Z (pc + 1) lv (.int (x - y) :: st) mem) : zk_J S d M Z pc lv (.int y :: .int x :: st) mem := by
  intro p l e s m args below meth c D α κ A H locs ls hF hP hD hS hl
  exact lv_isub hF.1 hF.2.1 hd (k p l e s m args below meth c D α κ A H locs ls hF hP hD hS hl)
theorem zk_imul {S : zkS} {d : Nat} {M : zkY} {Z : zkZ} {pc : Nat} {lv : List (Option Value)} {st : List Value} {mem : zkM} {x y : Int32} (hd : decode M.2.1 pc = .ok (.imul, 1)) (k : zk_J S d M Z (pc + 1) lv (.int (x * y) :: st) mem) : zk_J S d M Z pc lv (.int y :: .int x :: st) mem := by
  intro p l e s m args below meth c D α κ A H locs ls hF hP hD hS hl
  exact lv_imul hF.1 hF.2.1 hd (k p l e s m args below meth c D α κ A H locs ls hF hP hD hS hl)
theorem zk_iand {S : zkS} {d : Nat} {M : zkY} {Z : zkZ} {pc : Nat} {lv : List (Option Value)} {st : List Value} {mem : zkM} {x y : Int32} (hd : decode M.2.1 pc = .ok (.iand, 1)) (k : zk_J S d M Z (pc + 1) lv (.int (x &&& y) :: st) mem) : zk_J S d M Z pc lv (.int y :: .int x :: st) mem := by
  intro p l e s m args below meth c D α κ A H locs ls hF hP hD hS hl
  exact lv_iand hF.1 hF.2.1 hd (k p l e s m args below meth c D α κ A H locs ls hF hP hD hS hl)
theorem zk_ior {S : zkS} {d : Nat} {M : zkY} {Z : zkZ} {pc : Nat} {lv : List (Option Value)} {st : List Value} {mem : zkM} {x y : Int32} (hd : decode M.2.1 pc = .ok (.ior, 1)) (k : zk_J S d M Z (pc + 1) lv (.int (x ||| y) :: st) mem) : zk_J S d M Z pc lv (.int y :: .int x :: st) mem := by
  intro p l e s m args below meth c D α κ A H locs ls hF hP hD hS hl
  exact lv_ior hF.1 hF.2.1 hd (k p l e s m args below meth c D α κ A H locs ls hF hP hD hS hl)
theorem zk_ixor {S : zkS} {d : Nat} {M : zkY} {Z : zkZ} {pc : Nat} {lv : List (Option Value)} {st : List Value} {mem : zkM} {x y : Int32} (hd : decode M.2.1 pc = .ok (.ixor, 1)) (k : zk_J S d M Z (pc + 1) lv (.int (x ^^^ y) :: st) mem) : zk_J S d M Z pc lv (.int y :: .int x :: st) mem := by
  intro p l e s m args below meth c D α κ A H locs ls hF hP hD hS hl
  exact lv_ixor hF.1 hF.2.1 hd (k p l e s m args below meth c D α κ A H locs ls hF hP hD hS hl)
theorem zk_ishl {S : zkS} {d : Nat} {M : zkY} {Z : zkZ} {pc : Nat} {lv : List (Option Value)} {st : List Value} {mem : zkM} {x y : Int32} (hd : decode M.2.1 pc = .ok (.ishl, 1)) (k : zk_J S d M Z (pc + 1) lv (.int (x <<< (y &&& 31)) :: st) mem) : zk_J S d M Z pc lv (.int y :: .int x :: st) mem := by
  intro p l e s m args below meth c D α κ A H locs ls hF hP hD hS hl
  exact lv_ishl hF.1 hF.2.1 hd (k p l e s m args below meth c D α κ A H locs ls hF hP hD hS hl)
theorem zk_ishr {S : zkS} {d : Nat} {M : zkY} {Z : zkZ} {pc : Nat} {lv : List (Option Value)} {st : List Value} {mem : zkM} {x y : Int32} (hd : decode M.2.1 pc = .ok (.ishr, 1)) (k : zk_J S d M Z (pc + 1) lv (.int (x >>> (y &&& 31)) :: st) mem) : zk_J S d M Z pc lv (.int y :: .int x :: st) mem := by
  intro p l e s m args below meth c D α κ A H locs ls hF hP hD hS hl
  exact lv_ishr hF.1 hF.2.1 hd (k p l e s m args below meth c D α κ A H locs ls hF hP hD hS hl)
theorem zk_iushr {S : zkS} {d : Nat} {M : zkY} {Z : zkZ} {pc : Nat} {lv : List (Option Value)} {st : List Value} {mem : zkM} {x y v : Int32} (hd : decode M.2.1 pc = .ok (.iushr, 1)) (hv : (x.toUInt32 >>> (y.toUInt32 &&& Int32.toUInt32 31)).toInt32 = v) (k : zk_J S d M Z (pc + 1) lv (.int v :: st) mem) : zk_J S d M Z pc lv (.int y :: .int x :: st) mem := by
  intro p l e s m args below meth c D α κ A H locs ls hF hP hD hS hl
  exact lv_iushr hF.1 hF.2.1 hd hv (k p l e s m args below meth c D α κ A H locs ls hF hP hD hS hl)
theorem zk_idiv {S : zkS} {d : Nat} {M : zkY} {Z : zkZ} {pc : Nat} {lv : List (Option Value)} {st : List Value} {mem : zkM} {x y : Int32} (hd : decode M.2.1 pc = .ok (.idiv, 1)) (hne : ¬ y = 0) (k : zk_J S d M Z (pc + 1) lv (.int (x / y) :: st) mem) : zk_J S d M Z pc lv (.int y :: .int x :: st) mem := by
  intro p l e s m args below meth c D α κ A H locs ls hF hP hD hS hl
  exact lv_idiv hF.1 hF.2.1 hd hne (k p l e s m args below meth c D α κ A H locs ls hF hP hD hS hl)
theorem zk_irem {S : zkS} {d : Nat} {M : zkY} {Z : zkZ} {pc : Nat} {lv : List (Option Value)} {st : List Value} {mem : zkM} {x y : Int32} (hd : decode M.2.1 pc = .ok (.irem, 1)) (hne : ¬ y = 0) (k : zk_J S d M Z (pc + 1) lv (.int (x - x / y * y) :: st) mem) : zk_J S d M Z pc lv (.int y :: .int x :: st) mem := by
  intro p l e s m args below meth c D α κ A H locs ls hF hP hD hS hl
  exact lv_irem hF.1 hF.2.1 hd hne (k p l e s m args below meth c D α κ A H locs ls hF hP hD hS hl)
theorem zk_ineg {S : zkS} {d : Nat} {M : zkY} {Z : zkZ} {pc : Nat} {lv : List (Option Value)} {st : List Value} {mem : zkM} {x : Int32} (hd : decode M.2.1 pc = .ok (.ineg, 1)) (k : zk_J S d M Z (pc + 1) lv (.int (-x) :: st) mem) : zk_J S d M Z pc lv (.int x :: st) mem := by
  intro p l e s m args below meth c D α κ A H locs ls hF hP hD hS hl
  exact lv_ineg hF.1 hF.2.1 hd (k p l e s m args below meth c D α κ A H locs ls hF hP hD hS hl)
theorem zk_ladd {S : zkS} {d : Nat} {M : zkY} {Z : zkZ} {pc : Nat} {lv : List (Option Value)} {st : List Value} {mem : zkM} {x y : Int64} (hd : decode M.2.1 pc = .ok (.ladd, 1)) (k : zk_J S d M Z (pc + 1) lv (.long (x + y) :: st) mem) : zk_J S d M Z pc lv (.long y :: .long x :: st) mem := by
  intro p l e s m args below meth c D α κ A H locs ls hF hP hD hS hl
  exact lv_ladd hF.1 hF.2.1 hd (k p l e s m args below meth c D α κ A H locs ls hF hP hD hS hl)
theorem zk_lsub {S : zkS} {d : Nat} {M : zkY} {Z : zkZ} {pc : Nat} {lv : List (Option Value)} {st : List Value} {mem : zkM} {x y : Int64} (hd : decode M.2.1 pc = .ok (.lsub, 1)) (k : zk_J S d M Z (pc + 1) lv (.long (x - y) :: st) mem) : zk_J S d M Z pc lv (.long y :: .long x :: st) mem := by
  intro p l e s m args below meth c D α κ A H locs ls hF hP hD hS hl
  exact lv_lsub hF.1 hF.2.1 hd (k p l e s m args below meth c D α κ A H locs ls hF hP hD hS hl)
theorem zk_lmul {S : zkS} {d : Nat} {M : zkY} {Z : zkZ} {pc : Nat} {lv : List (Option Value)} {st : List Value} {mem : zkM} {x y : Int64} (hd : decode M.2.1 pc = .ok (.lmul, 1)) (k : zk_J S d M Z (pc + 1) lv (.long (x * y) :: st) mem) : zk_J S d M Z pc lv (.long y :: .long x :: st) mem := by
  intro p l e s m args below meth c D α κ A H locs ls hF hP hD hS hl
  exact lv_lmul hF.1 hF.2.1 hd (k p l e s m args below meth c D α κ A H locs ls hF hP hD hS hl)
theorem zk_ldiv {S : zkS} {d : Nat} {M : zkY} {Z : zkZ} {pc : Nat} {lv : List (Option Value)} {st : List Value} {mem : zkM} {x y : Int64} (hd : decode M.2.1 pc = .ok (.ldiv, 1)) (hne : ¬ y = 0) (k : zk_J S d M Z (pc + 1) lv (.long (x / y) :: st) mem) : zk_J S d M Z pc lv (.long y :: .long x :: st) mem := by
  intro p l e s m args below meth c D α κ A H locs ls hF hP hD hS hl
  exact lv_ldiv hF.1 hF.2.1 hd hne (k p l e s m args below meth c D α κ A H locs ls hF hP hD hS hl)
theorem zk_lrem {S : zkS} {d : Nat} {M : zkY} {Z : zkZ} {pc : Nat} {lv : List (Option Value)} {st : List Value} {mem : zkM} {x y : Int64} (hd : decode M.2.1 pc = .ok (.lrem, 1)) (hne : ¬ y = 0) (k : zk_J S d M Z (pc + 1) lv (.long (x - x / y * y) :: st) mem) : zk_J S d M Z pc lv (.long y :: .long x :: st) mem := by
  intro p l e s m args below meth c D α κ A H locs ls hF hP hD hS hl
  exact lv_lrem hF.1 hF.2.1 hd hne (k p l e s m args below meth c D α κ A H locs ls hF hP hD hS hl)
theorem zk_i2l {S : zkS} {d : Nat} {M : zkY} {Z : zkZ} {pc : Nat} {lv : List (Option Value)} {st : List Value} {mem : zkM} {x : Int32} (hd : decode M.2.1 pc = .ok (.i2l, 1)) (k : zk_J S d M Z (pc + 1) lv (.long x.toInt64 :: st) mem) : zk_J S d M Z pc lv (.int x :: st) mem := by
  intro p l e s m args below meth c D α κ A H locs ls hF hP hD hS hl
  exact lv_i2l hF.1 hF.2.1 hd rfl (k p l e s m args below meth c D α κ A H locs ls hF hP hD hS hl)
theorem zk_lcmp {S : zkS} {d : Nat} {M : zkY} {Z : zkZ} {pc : Nat} {lv : List (Option Value)} {st : List Value} {mem : zkM} {x y : Int64} (hd : decode M.2.1 pc = .ok (.lcmp, 1)) (k : zk_J S d M Z (pc + 1) lv (.int (lg_cmp x y) :: st) mem) : zk_J S d M Z pc lv (.long y :: .long x :: st) mem := by
  intro p l e s m args below meth c D α κ A H locs ls hF hP hD hS hl
  exact W.lcmp hF.1 hF.2.1 hd (k p l e s m args below meth c D α κ A H locs ls hF hP hD hS hl)
theorem zk_dup {S : zkS} {d : Nat} {M : zkY} {Z : zkZ} {pc : Nat} {lv : List (Option Value)} {st : List Value} {mem : zkM} {v : Value} (hd : decode M.2.1 pc = .ok (.dup, 1)) (hc : v.category = 1) (k : zk_J S d M Z (pc + 1) lv (v :: v :: st) mem) : zk_J S d M Z pc lv (v :: st) mem := by
  intro p l e s m args below meth c D α κ A H locs ls hF hP hD hS hl
  exact lv_dup hF.1 hF.2.1 hd (by rw [zk_cv_cat]; exact hc) (k p l e s m args below meth c D α κ A H locs ls hF hP hD hS hl)
theorem zk_dup2 {S : zkS} {d : Nat} {M : zkY} {Z : zkZ} {pc : Nat} {lv : List (Option Value)} {st : List Value} {mem : zkM} {v u : Value} (hd : decode M.2.1 pc = .ok (.dup2, 1)) (hc : v.category = 1) (hc2 : u.category = 1) (k : zk_J S d M Z (pc + 1) lv (v :: u :: v :: u :: st) mem) : zk_J S d M Z pc lv (v :: u :: st) mem := by
  intro p l e s m args below meth c D α κ A H locs ls hF hP hD hS hl
  exact lv_dup2_11 hF.1 hF.2.1 hd (by rw [zk_cv_cat]; exact hc) (by rw [zk_cv_cat]; exact hc2) (k p l e s m args below meth c D α κ A H locs ls hF hP hD hS hl)
theorem zk_pop {S : zkS} {d : Nat} {M : zkY} {Z : zkZ} {pc : Nat} {lv : List (Option Value)} {st : List Value} {mem : zkM} {v : Value} (hd : decode M.2.1 pc = .ok (.pop, 1)) (hc : v.category = 1) (k : zk_J S d M Z (pc + 1) lv st mem) : zk_J S d M Z pc lv (v :: st) mem := by
  intro p l e s m args below meth c D α κ A H locs ls hF hP hD hS hl
  exact lv_pop hF.1 hF.2.1 hd (by rw [zk_cv_cat]; exact hc) (k p l e s m args below meth c D α κ A H locs ls hF hP hD hS hl)
theorem zk_istore_n {S : zkS} {d : Nat} {M : zkY} {Z : zkZ} {pc : Nat} {lv : List (Option Value)} {st : List Value} {mem : zkM} {j : Fin 4} {i : Nat} {x : Int32} (hd : decode M.2.1 pc = .ok (.istore_n j, 1)) (hi : (j : Nat) = i) (hn : i < M.2.2.1) (hc : zk_nl lv i = true) (k : zk_J S d M Z (pc + 1) (lv.set i (some (.int x))) st mem) : zk_J S d M Z pc lv (.int x :: st) mem := by
  intro p l e s m args below meth c D α κ A H locs ls hF hP hD hS hl
  exact lv_istore_n hF.1 hF.2.1 hd hi hl.has hn rfl (fun ls' h' => k p l e s m args below meth c D α κ A H locs ls' hF hP hD hS (zk_lv.st1 hc (v := .int x) h'))
theorem zk_istore {S : zkS} {d : Nat} {M : zkY} {Z : zkZ} {pc : Nat} {lv : List (Option Value)} {st : List Value} {mem : zkM} {i : Nat} {x : Int32} (hd : decode M.2.1 pc = .ok (.istore i, 2)) (hn : i < M.2.2.1) (hc : zk_nl lv i = true) (k : zk_J S d M Z (pc + 2) (lv.set i (some (.int x))) st mem) : zk_J S d M Z pc lv (.int x :: st) mem := by
  intro p l e s m args below meth c D α κ A H locs ls hF hP hD hS hl
  exact lv_istore hF.1 hF.2.1 hd hl.has hn rfl (fun ls' h' => k p l e s m args below meth c D α κ A H locs ls' hF hP hD hS (zk_lv.st1 hc (v := .int x) h'))
theorem zk_astore_n {S : zkS} {d : Nat} {M : zkY} {Z : zkZ} {pc : Nat} {lv : List (Option Value)} {st : List Value} {mem : zkM} {j : Fin 4} {i : Nat} {x : Nat} (hd : decode M.2.1 pc = .ok (.astore_n j, 1)) (hi : (j : Nat) = i) (hn : i < M.2.2.1) (hc : zk_nl lv i = true) (k : zk_J S d M Z (pc + 1) (lv.set i (some (.ref x))) st mem) : zk_J S d M Z pc lv (.ref x :: st) mem := by
  intro p l e s m args below meth c D α κ A H locs ls hF hP hD hS hl
  exact lv_astore_n hF.1 hF.2.1 hd hi hl.has hn rfl (fun ls' h' => k p l e s m args below meth c D α κ A H locs ls' hF hP hD hS (zk_lv.st1 hc (v := .ref x) h'))
theorem zk_astore {S : zkS} {d : Nat} {M : zkY} {Z : zkZ} {pc : Nat} {lv : List (Option Value)} {st : List Value} {mem : zkM} {i : Nat} {x : Nat} (hd : decode M.2.1 pc = .ok (.astore i, 2)) (hn : i < M.2.2.1) (hc : zk_nl lv i = true) (k : zk_J S d M Z (pc + 2) (lv.set i (some (.ref x))) st mem) : zk_J S d M Z pc lv (.ref x :: st) mem := by
  intro p l e s m args below meth c D α κ A H locs ls hF hP hD hS hl
  exact lv_astore hF.1 hF.2.1 hd hl.has hn rfl (fun ls' h' => k p l e s m args below meth c D α κ A H locs ls' hF hP hD hS (zk_lv.st1 hc (v := .ref x) h'))
theorem zk_lstore_n {S : zkS} {d : Nat} {M : zkY} {Z : zkZ} {pc : Nat} {lv : List (Option Value)} {st : List Value} {mem : zkM} {j : Fin 4} {i : Nat} {x : Int64} (hd : decode M.2.1 pc = .ok (.lstore_n j, 1)) (hi : (j : Nat) = i) (hn : i + 1 < M.2.2.1) (hc : zk_nl lv i = true) (k : zk_J S d M Z (pc + 1) ((lv.set i (some (.long x))).set (i + 1) none) st mem) : zk_J S d M Z pc lv (.long x :: st) mem := by
  intro p l e s m args below meth c D α κ A H locs ls hF hP hD hS hl
  exact lv_lstore_n hF.1 hF.2.1 hd hi hl.has hn rfl (fun ls' h' => k p l e s m args below meth c D α κ A H locs ls' hF hP hD hS (zk_lv.st2 hc (v := .long x) h'))
theorem zk_lstore {S : zkS} {d : Nat} {M : zkY} {Z : zkZ} {pc : Nat} {lv : List (Option Value)} {st : List Value} {mem : zkM} {i : Nat} {x : Int64} (hd : decode M.2.1 pc = .ok (.lstore i, 2)) (hn : i + 1 < M.2.2.1) (hc : zk_nl lv i = true) (k : zk_J S d M Z (pc + 2) ((lv.set i (some (.long x))).set (i + 1) none) st mem) : zk_J S d M Z pc lv (.long x :: st) mem := by
  intro p l e s m args below meth c D α κ A H locs ls hF hP hD hS hl
  exact lv_lstore hF.1 hF.2.1 hd hl.has hn rfl (fun ls' h' => k p l e s m args below meth c D α κ A H locs ls' hF hP hD hS (zk_lv.st2 hc (v := .long x) h'))
theorem zk_iinc {S : zkS} {d : Nat} {M : zkY} {Z : zkZ} {pc : Nat} {lv : List (Option Value)} {st : List Value} {mem : zkM} {i : Nat} {n : Int} {x v : Int32} (hd : decode M.2.1 pc = .ok (.iinc i n, 3)) (hv : lv[i]? = some (some (.int x))) (he : x + Int32.ofInt n = v) (hn : i < M.2.2.1) (hc : zk_nl lv i = true) (k : zk_J S d M Z (pc + 3) (lv.set i (some (.int v))) st mem) : zk_J S d M Z pc lv st mem := by
  intro p l e s m args below meth c D α κ A H locs ls hF hP hD hS hl
  obtain ⟨q, hq⟩ := List.getElem?_of_mem (zk_pr_mem (α := α) hv)
  exact lv_iinc hF.1 hF.2.1 hd hl.has hq he hn rfl (fun ls' h' => k p l e s m args below meth c D α κ A H locs ls' hF hP hD hS (zk_lv.st1 hc (v := .int v) h'))
theorem zk_if_eq {S : zkS} {d : Nat} {M : zkY} {Z : zkZ} {pc : Nat} {lv : List (Option Value)} {st : List Value} {mem : zkM} {x : Int32} {off : Int} (tgt : Nat) (hd : decode M.2.1 pc = .ok (.ifCond .eq off, 3)) (ht : (pc : Int) + off = (tgt : Int)) (kt : x = 0 → zk_J S d M Z tgt lv st mem) (kf : ¬ x = 0 → zk_J S d M Z (pc + 3) lv st mem) : zk_J S d M Z pc lv (.int x :: st) mem := by
  intro p l e s m args below meth c D α κ A H locs ls hF hP hD hS hl
  exact lv_if_eq hF.1 hF.2.1 hd ht (fun z => kt z p l e s m args below meth c D α κ A H locs ls hF hP hD hS hl) (fun z => kf z p l e s m args below meth c D α κ A H locs ls hF hP hD hS hl)
theorem zk_icmp_eq {S : zkS} {d : Nat} {M : zkY} {Z : zkZ} {pc : Nat} {lv : List (Option Value)} {st : List Value} {mem : zkM} {x y : Int32} {off : Int} (tgt : Nat) (hd : decode M.2.1 pc = .ok (.if_icmp .eq off, 3)) (ht : (pc : Int) + off = (tgt : Int)) (kt : x = y → zk_J S d M Z tgt lv st mem) (kf : ¬ x = y → zk_J S d M Z (pc + 3) lv st mem) : zk_J S d M Z pc lv (.int y :: .int x :: st) mem := by
  intro p l e s m args below meth c D α κ A H locs ls hF hP hD hS hl
  exact lv_icmp_eq hF.1 hF.2.1 hd ht (fun z => kt z p l e s m args below meth c D α κ A H locs ls hF hP hD hS hl) (fun z => kf z p l e s m args below meth c D α κ A H locs ls hF hP hD hS hl)
theorem zk_if_ne {S : zkS} {d : Nat} {M : zkY} {Z : zkZ} {pc : Nat} {lv : List (Option Value)} {st : List Value} {mem : zkM} {x : Int32} {off : Int} (tgt : Nat) (hd : decode M.2.1 pc = .ok (.ifCond .ne off, 3)) (ht : (pc : Int) + off = (tgt : Int)) (kt : ¬ x = 0 → zk_J S d M Z tgt lv st mem) (kf : x = 0 → zk_J S d M Z (pc + 3) lv st mem) : zk_J S d M Z pc lv (.int x :: st) mem := by
  intro p l e s m args below meth c D α κ A H locs ls hF hP hD hS hl
  exact lv_if_ne hF.1 hF.2.1 hd ht (fun z => kt z p l e s m args below meth c D α κ A H locs ls hF hP hD hS hl) (fun z => kf z p l e s m args below meth c D α κ A H locs ls hF hP hD hS hl)
theorem zk_icmp_ne {S : zkS} {d : Nat} {M : zkY} {Z : zkZ} {pc : Nat} {lv : List (Option Value)} {st : List Value} {mem : zkM} {x y : Int32} {off : Int} (tgt : Nat) (hd : decode M.2.1 pc = .ok (.if_icmp .ne off, 3)) (ht : (pc : Int) + off = (tgt : Int)) (kt : ¬ x = y → zk_J S d M Z tgt lv st mem) (kf : x = y → zk_J S d M Z (pc + 3) lv st mem) : zk_J S d M Z pc lv (.int y :: .int x :: st) mem := by
  intro p l e s m args below meth c D α κ A H locs ls hF hP hD hS hl
  exact lv_icmp_ne hF.1 hF.2.1 hd ht (fun z => kt z p l e s m args below meth c D α κ A H locs ls hF hP hD hS hl) (fun z => kf z p l e s m args below meth c D α κ A H locs ls hF hP hD hS hl)
theorem zk_if_lt {S : zkS} {d : Nat} {M : zkY} {Z : zkZ} {pc : Nat} {lv : List (Option Value)} {st : List Value} {mem : zkM} {x : Int32} {off : Int} (tgt : Nat) (hd : decode M.2.1 pc = .ok (.ifCond .lt off, 3)) (ht : (pc : Int) + off = (tgt : Int)) (kt : x < 0 → zk_J S d M Z tgt lv st mem) (kf : ¬ x < 0 → zk_J S d M Z (pc + 3) lv st mem) : zk_J S d M Z pc lv (.int x :: st) mem := by
  intro p l e s m args below meth c D α κ A H locs ls hF hP hD hS hl
  exact lv_if_lt hF.1 hF.2.1 hd ht (fun z => kt z p l e s m args below meth c D α κ A H locs ls hF hP hD hS hl) (fun z => kf z p l e s m args below meth c D α κ A H locs ls hF hP hD hS hl)
theorem zk_icmp_lt {S : zkS} {d : Nat} {M : zkY} {Z : zkZ} {pc : Nat} {lv : List (Option Value)} {st : List Value} {mem : zkM} {x y : Int32} {off : Int} (tgt : Nat) (hd : decode M.2.1 pc = .ok (.if_icmp .lt off, 3)) (ht : (pc : Int) + off = (tgt : Int)) (kt : x < y → zk_J S d M Z tgt lv st mem) (kf : ¬ x < y → zk_J S d M Z (pc + 3) lv st mem) : zk_J S d M Z pc lv (.int y :: .int x :: st) mem := by
  intro p l e s m args below meth c D α κ A H locs ls hF hP hD hS hl
  exact lv_icmp_lt hF.1 hF.2.1 hd ht (fun z => kt z p l e s m args below meth c D α κ A H locs ls hF hP hD hS hl) (fun z => kf z p l e s m args below meth c D α κ A H locs ls hF hP hD hS hl)
theorem zk_if_ge {S : zkS} {d : Nat} {M : zkY} {Z : zkZ} {pc : Nat} {lv : List (Option Value)} {st : List Value} {mem : zkM} {x : Int32} {off : Int} (tgt : Nat) (hd : decode M.2.1 pc = .ok (.ifCond .ge off, 3)) (ht : (pc : Int) + off = (tgt : Int)) (kt : 0 ≤ x → zk_J S d M Z tgt lv st mem) (kf : ¬ 0 ≤ x → zk_J S d M Z (pc + 3) lv st mem) : zk_J S d M Z pc lv (.int x :: st) mem := by
  intro p l e s m args below meth c D α κ A H locs ls hF hP hD hS hl
  exact lv_if_ge hF.1 hF.2.1 hd ht (fun z => kt z p l e s m args below meth c D α κ A H locs ls hF hP hD hS hl) (fun z => kf z p l e s m args below meth c D α κ A H locs ls hF hP hD hS hl)
theorem zk_icmp_ge {S : zkS} {d : Nat} {M : zkY} {Z : zkZ} {pc : Nat} {lv : List (Option Value)} {st : List Value} {mem : zkM} {x y : Int32} {off : Int} (tgt : Nat) (hd : decode M.2.1 pc = .ok (.if_icmp .ge off, 3)) (ht : (pc : Int) + off = (tgt : Int)) (kt : y ≤ x → zk_J S d M Z tgt lv st mem) (kf : ¬ y ≤ x → zk_J S d M Z (pc + 3) lv st mem) : zk_J S d M Z pc lv (.int y :: .int x :: st) mem := by
  intro p l e s m args below meth c D α κ A H locs ls hF hP hD hS hl
  exact lv_icmp_ge hF.1 hF.2.1 hd ht (fun z => kt z p l e s m args below meth c D α κ A H locs ls hF hP hD hS hl) (fun z => kf z p l e s m args below meth c D α κ A H locs ls hF hP hD hS hl)
theorem zk_if_gt {S : zkS} {d : Nat} {M : zkY} {Z : zkZ} {pc : Nat} {lv : List (Option Value)} {st : List Value} {mem : zkM} {x : Int32} {off : Int} (tgt : Nat) (hd : decode M.2.1 pc = .ok (.ifCond .gt off, 3)) (ht : (pc : Int) + off = (tgt : Int)) (kt : 0 < x → zk_J S d M Z tgt lv st mem) (kf : ¬ 0 < x → zk_J S d M Z (pc + 3) lv st mem) : zk_J S d M Z pc lv (.int x :: st) mem := by
  intro p l e s m args below meth c D α κ A H locs ls hF hP hD hS hl
  exact lv_if_gt hF.1 hF.2.1 hd ht (fun z => kt z p l e s m args below meth c D α κ A H locs ls hF hP hD hS hl) (fun z => kf z p l e s m args below meth c D α κ A H locs ls hF hP hD hS hl)
theorem zk_icmp_gt {S : zkS} {d : Nat} {M : zkY} {Z : zkZ} {pc : Nat} {lv : List (Option Value)} {st : List Value} {mem : zkM} {x y : Int32} {off : Int} (tgt : Nat) (hd : decode M.2.1 pc = .ok (.if_icmp .gt off, 3)) (ht : (pc : Int) + off = (tgt : Int)) (kt : y < x → zk_J S d M Z tgt lv st mem) (kf : ¬ y < x → zk_J S d M Z (pc + 3) lv st mem) : zk_J S d M Z pc lv (.int y :: .int x :: st) mem := by
  intro p l e s m args below meth c D α κ A H locs ls hF hP hD hS hl
  exact lv_icmp_gt hF.1 hF.2.1 hd ht (fun z => kt z p l e s m args below meth c D α κ A H locs ls hF hP hD hS hl) (fun z => kf z p l e s m args below meth c D α κ A H locs ls hF hP hD hS hl)
theorem zk_if_le {S : zkS} {d : Nat} {M : zkY} {Z : zkZ} {pc : Nat} {lv : List (Option Value)} {st : List Value} {mem : zkM} {x : Int32} {off : Int} (tgt : Nat) (hd : decode M.2.1 pc = .ok (.ifCond .le off, 3)) (ht : (pc : Int) + off = (tgt : Int)) (kt : x ≤ 0 → zk_J S d M Z tgt lv st mem) (kf : ¬ x ≤ 0 → zk_J S d M Z (pc + 3) lv st mem) : zk_J S d M Z pc lv (.int x :: st) mem := by
  intro p l e s m args below meth c D α κ A H locs ls hF hP hD hS hl
  exact lv_if_le hF.1 hF.2.1 hd ht (fun z => kt z p l e s m args below meth c D α κ A H locs ls hF hP hD hS hl) (fun z => kf z p l e s m args below meth c D α κ A H locs ls hF hP hD hS hl)
theorem zk_icmp_le {S : zkS} {d : Nat} {M : zkY} {Z : zkZ} {pc : Nat} {lv : List (Option Value)} {st : List Value} {mem : zkM} {x y : Int32} {off : Int} (tgt : Nat) (hd : decode M.2.1 pc = .ok (.if_icmp .le off, 3)) (ht : (pc : Int) + off = (tgt : Int)) (kt : x ≤ y → zk_J S d M Z tgt lv st mem) (kf : ¬ x ≤ y → zk_J S d M Z (pc + 3) lv st mem) : zk_J S d M Z pc lv (.int y :: .int x :: st) mem := by
  intro p l e s m args below meth c D α κ A H locs ls hF hP hD hS hl
  exact lv_icmp_le hF.1 hF.2.1 hd ht (fun z => kt z p l e s m args below meth c D α κ A H locs ls hF hP hD hS hl) (fun z => kf z p l e s m args below meth c D α κ A H locs ls hF hP hD hS hl)
theorem zk_goto {S : zkS} {d : Nat} {M : zkY} {Z : zkZ} {pc : Nat} {lv : List (Option Value)} {st : List Value} {mem : zkM} {off : Int} (tgt : Nat) (hd : decode M.2.1 pc = .ok (.goto off, 3)) (ht : (pc : Int) + off = (tgt : Int)) (k : zk_J S d M Z tgt lv st mem) : zk_J S d M Z pc lv st mem := by
  intro p l e s m args below meth c D α κ A H locs ls hF hP hD hS hl
  exact lv_goto hF.1 hF.2.1 hd ht (k p l e s m args below meth c D α κ A H locs ls hF hP hD hS hl)
theorem zk_tin {S : zkS} {d : Nat} {M : zkY} {Z : zkZ} {pc : Nat} {lv : List (Option Value)} {st : List Value} {mem : zkM} {dflt lo hi : Int} {offs : Array Int} {len : Nat} {x : Int32} {off : Int} (tgt : Nat) (hd : decode M.2.1 pc = .ok (.tableswitch dflt lo hi offs, len)) {v : Int32} (hx : x = v) (h1 : ¬ v.toInt < lo) (h2 : ¬ hi < v.toInt) (ho : offs[(v.toInt - lo).toNat]? = some off) (ht : (pc : Int) + off = (tgt : Int)) (k : zk_J S d M Z tgt lv st mem) : zk_J S d M Z pc lv (.int x :: st) mem := by
  intro p l e s m args below meth c D α κ A H locs ls hF hP hD hS hl
  subst hx
  exact lv_tableIn hF.1 hF.2.1 hd h1 h2 ho ht (k p l e s m args below meth c D α κ A H locs ls hF hP hD hS hl)
theorem zk_tout {S : zkS} {d : Nat} {M : zkY} {Z : zkZ} {pc : Nat} {lv : List (Option Value)} {st : List Value} {mem : zkM} {dflt lo hi : Int} {offs : Array Int} {len : Nat} {x : Int32} (tgt : Nat) (hd : decode M.2.1 pc = .ok (.tableswitch dflt lo hi offs, len)) (h : x.toInt < lo ∨ hi < x.toInt) (ht : (pc : Int) + dflt = (tgt : Int)) (k : zk_J S d M Z tgt lv st mem) : zk_J S d M Z pc lv (.int x :: st) mem := by
  intro p l e s m args below meth c D α κ A H locs ls hF hP hD hS hl
  exact lv_tableOut hF.1 hF.2.1 hd h ht (k p l e s m args below meth c D α κ A H locs ls hF hP hD hS hl)
theorem zk_lsw {S : zkS} {d : Nat} {M : zkY} {Z : zkZ} {pc : Nat} {lv : List (Option Value)} {st : List Value} {mem : zkM} {dflt : Int} {ps : Array (Int × Int)} {len : Nat} {x : Int32} {off : Int} (tgt : Nat) (hd : decode M.2.1 pc = .ok (.lookupswitch dflt ps, len)) (hp : (ps.toList.zip (ps.toList.drop 1)).all (fun (a, next) => a.1 < next.1) = true) (ho : Op.lookupswitch.offset ps.toList dflt x.toInt = off) (ht : (pc : Int) + off = (tgt : Int)) (k : zk_J S d M Z tgt lv st mem) : zk_J S d M Z pc lv (.int x :: st) mem := by
  intro p l e s m args below meth c D α κ A H locs ls hF hP hD hS hl
  exact lv_lookup hF.1 hF.2.1 hd hp ho ht (k p l e s m args below meth c D α κ A H locs ls hF hP hD hS hl)
