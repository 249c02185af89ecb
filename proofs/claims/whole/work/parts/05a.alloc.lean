/-! THE LAYER OF WORLDS THAT GROW: constructors. A world is a list of cells whose references are places of that list -/
def zk_ce (α : Nat → Nat) (κ : Nat → ClassId) (c : va_E) : va_E := match c with
  | .inl (q, n, .inr (.inr (.inr (.inr f)))) => .inl (κ q, n, .inr (.inr (.inr (.inr (fun i => (f i).map α)))))
  | .inl (q, n, .inl f) => .inl (κ q, n, .inl f)
  | .inl (q, n, .inr (.inl f)) => .inl (κ q, n, .inr (.inl f))
  | .inl (q, z) => .inl (κ q, z)
  | .inr (ci, fs) => .inr (ci, fs.map (zk_cv α))
def zk_cw (α : Nat → Nat) (κ : Nat → ClassId) (cs : List va_E) : va_W := cs.zipIdx.map (fun q => (α q.2, zk_ce α κ q.1))
/-- what a cell refers to lies below n -/
def zk_wf (n : Nat) (c : va_E) : Prop := match c with
  | .inl (_, _, .inr (.inr (.inr (.inr f)))) => ∀ i k, f i = some k → k < n
  | .inl _ => True
  | .inr (_, fs) => ∀ k, Value.ref k ∈ fs → k < n
def zk_wfs (cs : List va_E) : Prop := ∀ c ∈ cs, zk_wf cs.length c
theorem zk_wf.mono {n n' : Nat} (h : n ≤ n') {c : va_E} (hc : zk_wf n c) : zk_wf n' c := by
  unfold zk_wf at hc ⊢
  split
  · rename_i f; simp only at hc; exact fun i k hk => Nat.lt_of_lt_of_le (hc i k hk) h
  · trivial
  · simp only at hc; exact fun k hk => Nat.lt_of_lt_of_le (hc k hk) h
theorem zk_cw_get {α : Nat → Nat} {κ : Nat → ClassId} {cs : List va_E} {k : Nat} {c : va_E} (h : cs[k]? = some c) : (zk_cw α κ cs)[k]? = some (α k, zk_ce α κ c) := by
  unfold zk_cw
  rw [List.getElem?_map, List.getElem?_zipIdx, h]
  simp
theorem zk_cw_set {α : Nat → Nat} {κ : Nat → ClassId} {cs : List va_E} {k : Nat} {c : va_E} : (zk_cw α κ cs).set k (α k, zk_ce α κ c) = zk_cw α κ (cs.set k c) := by
  apply List.ext_getElem?
  intro j
  unfold zk_cw
  rw [List.getElem?_set, List.getElem?_map, List.getElem?_map, List.getElem?_zipIdx, List.getElem?_zipIdx, List.getElem?_set]
  by_cases h : k = j
  · subst h
    by_cases hl : k < cs.length <;> simp [hl]
  · simp [h]
theorem zk_cw_push {α : Nat → Nat} {κ : Nat → ClassId} {cs : List va_E} {c : va_E} : zk_cw α κ (cs ++ [c]) = zk_cw α κ cs ++ [(α cs.length, zk_ce α κ c)] := by
  unfold zk_cw
  rw [List.zipIdx_append, List.map_append]
  simp
theorem zk_cv_congr {α α' : Nat → Nat} {n : Nat} (h : ∀ k, k < n → α' k = α k) {v : Value} (hv : ∀ k, v = .ref k → k < n) : zk_cv α' v = zk_cv α v := by
  cases v <;> try rfl
  rename_i k
  show Value.ref (α' k) = Value.ref (α k)
  rw [h k (hv k rfl)]
theorem zk_ce_congr {α α' : Nat → Nat} {κ : Nat → ClassId} {n : Nat} (h : ∀ k, k < n → α' k = α k) {c : va_E} (hc : zk_wf n c) : zk_ce α' κ c = zk_ce α κ c := by
  unfold zk_ce zk_wf at *
  split at hc
  · rename_i q m f
    simp only at hc ⊢
    have : (fun i => (f i).map α') = (fun i => (f i).map α) := by
      funext i
      cases hf : f i with
      | none => rfl
      | some k => simp [h k (hc i k hf)]
    rw [this]
  · rename_i x hx
    split
    · rename_i h1; exact (hx _ _ _ (Sum.inl.inj h1)).elim
    · rfl
    · rfl
    · rfl
    · rename_i h1; cases h1
  · rename_i ci fs
    simp only at hc ⊢
    have : fs.map (zk_cv α') = fs.map (zk_cv α) := List.map_congr_left (fun v hv => zk_cv_congr h (fun k hk => hc k (hk ▸ hv)))
    rw [this]
theorem zk_cw_congr {α α' : Nat → Nat} {κ : Nat → ClassId} {cs : List va_E} (h : ∀ k, k < cs.length → α' k = α k) (hw : zk_wfs cs) : zk_cw α' κ cs = zk_cw α κ cs := by
  apply List.ext_getElem?
  intro j
  unfold zk_cw
  rw [List.getElem?_map, List.getElem?_map, List.getElem?_zipIdx]
  cases hj : cs[j]? with
  | none => rfl
  | some c =>
    have hl := (List.getElem?_eq_some_iff.mp hj).1
    simp [h j hl, zk_ce_congr h (hw c (List.mem_of_getElem? hj))]
/-- a value whose reference, if it is one, lies below n -/
def zk_vb (n : Nat) (v : Value) : Bool := match v with
  | .ref k => Nat.blt k n
  | _ => true
def zk_vbs (n : Nat) (lv : List (Option Value)) (st : List Value) : Bool := (lv.all fun o => match o with | some v => zk_vb n v | none => true) && st.all (zk_vb n)
theorem zk_vb_cv {α α' : Nat → Nat} {n : Nat} (h : ∀ k, k < n → α' k = α k) {v : Value} (hv : zk_vb n v = true) : zk_cv α' v = zk_cv α v :=
  zk_cv_congr h (fun k hk => by subst hk; exact Nat.le_of_ble_eq_true hv)
theorem zk_vbs_st {α α' : Nat → Nat} {n : Nat} (h : ∀ k, k < n → α' k = α k) {lv : List (Option Value)} {st : List Value} (hv : zk_vbs n lv st = true) : st.map (zk_cv α') = st.map (zk_cv α) := by
  unfold zk_vbs at hv
  rw [Bool.and_eq_true] at hv
  exact List.map_congr_left (fun v hm => zk_vb_cv h (List.all_eq_true.mp hv.2 v hm))
theorem zk_vbs_lv {α α' : Nat → Nat} {n nL : Nat} {ls : Array Slot} (h : ∀ k, k < n → α' k = α k) {lv : List (Option Value)} {st : List Value} (hv : zk_vbs n lv st = true) (hl : zk_lv α nL ls lv) : zk_lv α' nL ls lv := by
  unfold zk_vbs at hv
  rw [Bool.and_eq_true] at hv
  refine ⟨hl.1, hl.2.1, fun i v hi => ?_⟩
  have := List.all_eq_true.mp hv.1 (some v) (List.mem_of_getElem? hi)
  rw [zk_vb_cv h this]
  exact hl.2.2 i v hi
def zk_nsti : List (String × Nat × MethodName × String) := [(RX11, 9, yX9_init, "TreePlanks"), (RX11, 18, yX8_init, "TreePlanks"), (RX11, 25, yX1_init, "TreePlanks"), (RX11, 32, yX5_init, "TreePlanks"), (RX11, 39, yX0_init, "TreePlanks"), (RX11, 46, yX7_init, "TreePlanks"), (RX11, 53, yX6_init, "TreePlanks"), (RX6, 11, yX1_init, "TreePlanks"), (RX11, 60, yX3_init, "TreePlanks"), (RX3, 11, yX8_init, "TreePlanks"), (RX11, 67, yX2_init, "TreePlanks"), (RX11, 74, yX4_init, "TreePlanks"), (RX11, 81, yX10_init, "TreePlanks")]
def zk_O (U : State) : Prop := (∀ q ∈ zk_nsti, va_Nw (.methodLinkNest q.1 q.2.1 q.2.2.1 q.2.2.2) U) ∧ va_Nw (.arrayOver (.array .int)) U
theorem zk_O.go {s U : State} (h : zk_O s) (hW : s.WarmedH U.vm) : zk_O U := ⟨fun q hq => va_Nw.warmM hW (h.1 q hq), arrayOver_alikeB hW.alike h.2⟩
theorem zk_ro.al {α α' : Nat → Nat} {A : Nat → Prop} {U : State} {H : Heap} (h : zk_ro α A U H) (hj : ∀ j, α' (1000 + j) = α (1000 + j)) : zk_ro α' A U H := ⟨h.1, fun j q hq => by rw [hj j]; exact h.2 j q hq⟩
def zk_roomA (d Nc Ns : Nat) : Room := { frames := d + 1, cells := Nc, slots := Ns, locals := 64 * d + 64 }
def zk_ZA (n0 : Nat) (cs' : List va_E) (D : va_G) (α : Nat → Nat) (κ : Nat → ClassId) (A : Nat → Prop) : Array Value → State → Outcome → State → Prop := fun _ st oc t =>
  ∃ α' : Nat → Nat, (∀ k, k < n0 → α' k = α k) ∧ (∀ j, α' (1000 + j) = α (1000 + j)) ∧ oc = .returned none ∧ va_P D vwCl (zk_cw α' κ cs') t.heap ∧ va_D A (zk_cw α' κ cs') ∧ zk_ro α' A t t.heap ∧ va_K D vwCl (zk_tys κ) t ∧ zk_wfs cs' ∧ n0 ≤ cs'.length ∧ va_F A st t
def zk_BA (D : va_G) (α : Nat → Nat) (κ : Nat → ClassId) (A : Nat → Prop) (cs : List va_E) (U : State) : Prop :=
  (∀ q, U.heap.size ≤ q → A q) ∧ zk_wfs cs ∧ va_P D vwCl (zk_cw α κ cs) U.heap ∧ va_K D vwCl (zk_tys κ) U ∧ va_D A (zk_cw α κ cs) ∧ zk_ro α A U U.heap ∧ zk_O U
/-- a constructor's contract -/
def zk_XA (d Nc Ns : Nat) (M : zkY) (as : List Value) (cs cs' : List va_E) : Prop :=
  ∀ (l : Launch) (D : va_G) (α : Nat → Nat) (κ : Nat → ClassId) (A : Nat → Prop), Met l M.1 (zk_ws M) (zk_roomA d Nc Ns) (va_Pc (as.map (zk_cv α)) (zk_BA D α κ A cs)) (zk_ZA cs.length cs' D α κ A) Nc Ns A
def zk_A (d Nc Ns n0 : Nat) (M : zkY) (cs' : List va_E) (cc ss pc : Nat) (lv : List (Option Value)) (st : List Value) (cs : List va_E) : Prop :=
  ∀ (p : Program) (l : Launch) (e : Env) (s : State) (m : MethodId) (args : Array Value) (below : List Frame) (meth : Method) (c : Code) (D : va_G) (α : Nat → Nat) (κ : Nat → ClassId) (A : Nat → Prop) (H : Heap) (locs : List Loc) (ls : Array Slot),
    zk_F M p s m args meth c D α κ A → (meth.name = "<init>" ∧ (∀ q, s.heap.size ≤ q → A q) ∧ zk_O s) → va_P D vwCl (zk_cw α κ cs) H → va_D A (zk_cw α κ cs) → va_S A s.heap H locs → zk_lv α M.2.2.1 ls lv → (zk_wfs cs ∧ n0 ≤ cs.length) →
    W p l e (zk_roomA d Nc Ns) s m args below meth c H locs cc ss (MQ below (zk_ZA n0 cs' D α κ A) args s Nc Ns A) (F0 m pc ls (st.map (zk_cv α)))
theorem zk_ZA.al {n0 n : Nat} {cs' : List va_E} {D : va_G} {α α' : Nat → Nat} {κ : Nat → ClassId} {A : Nat → Prop} (hn : n0 ≤ n) (h : ∀ k, k < n → α' k = α k) (hj : ∀ j, α' (1000 + j) = α (1000 + j)) {a : Array Value} {s : State} {o : Outcome} {t : State} (q : zk_ZA n0 cs' D α' κ A a s o t) : zk_ZA n0 cs' D α κ A a s o t := by
  obtain ⟨α2, h1, h2, h3⟩ := q
  exact ⟨α2, fun k hk => (h1 k hk).trans (h k (Nat.lt_of_lt_of_le hk hn)), fun j => (h2 j).trans (hj j), h3⟩
theorem zk_W_mono' {p : Program} {l : Launch} {e : Env} {R : Room} {s : State} {m : MethodId} {args : Array Value} {below : List Frame} {meth : Method} {c : Code} {H : Heap} {locs : List Loc} {cells slots mc ms : Nat} {Q Q' : Array Value → State → Outcome → State → Prop} {A : Addr → Prop} {g : JFrame} (hQ : ∀ a s o t, Q a s o t → Q' a s o t)
    (k : W p l e R s m args below meth c H locs cells slots (MQ below Q args s mc ms A) g) : W p l e R s m args below meth c H locs cells slots (MQ below Q' args s mc ms A) g := zk_W_mono hQ k
theorem zk_wfs_set {cs : List va_E} {k : Nat} {c : va_E} (h : zk_wfs cs) (hc : zk_wf cs.length c) : zk_wfs (cs.set k c) := by
  intro x hx
  rw [List.length_set]
  rcases List.mem_or_eq_of_mem_set hx with h1 | h1
  · exact h x h1
  · subst h1; exact hc
theorem zk_wfs_push {cs : List va_E} {c : va_E} (h : zk_wfs cs) (hc : zk_wf (cs.length + 1) c) : zk_wfs (cs ++ [c]) := by
  intro x hx
  rw [List.length_append]
  rcases List.mem_append.mp hx with h1 | h1
  · exact (h x h1).mono (by simp)
  · rw [List.mem_singleton.mp h1]; exact hc
theorem zk_at_new {α : Nat → Nat} {n q : Nat} : ∀ k, k < n → (fun k => if k = n then q else α k) k = α k := fun k hk => if_neg (Nat.ne_of_lt hk)

theorem zk_Aiconst {d Nc Ns n0 : Nat} {M : zkY} {cs' : List va_E} {cc ss pc : Nat} {lv : List (Option Value)} {st : List Value} {cs : List va_E} {n : Int} {v : Int32} (hd : decode M.2.1 pc = .ok (.iconst n, 1)) (hv : Int32.ofInt n = v) (kk : zk_A d Nc Ns n0 M cs' cc ss (pc + 1) lv (.int v :: st) cs) : zk_A d Nc Ns n0 M cs' cc ss pc lv st cs := by
  intro p l e s m args below meth c D α κ A H locs ls hF hI hP hD hS hl hw
  exact lv_iconst hF.1 hF.2.1 hd hv (kk p l e s m args below meth c D α κ A H locs ls hF hI hP hD hS hl hw)
theorem zk_Abipush {d Nc Ns n0 : Nat} {M : zkY} {cs' : List va_E} {cc ss pc : Nat} {lv : List (Option Value)} {st : List Value} {cs : List va_E} {n : Int} {v : Int32} (hd : decode M.2.1 pc = .ok (.bipush n, 2)) (hv : (Int8.ofInt n).toInt32 = v) (kk : zk_A d Nc Ns n0 M cs' cc ss (pc + 2) lv (.int v :: st) cs) : zk_A d Nc Ns n0 M cs' cc ss pc lv st cs := by
  intro p l e s m args below meth c D α κ A H locs ls hF hI hP hD hS hl hw
  exact lv_bipush hF.1 hF.2.1 hd hv (kk p l e s m args below meth c D α κ A H locs ls hF hI hP hD hS hl hw)
theorem zk_Asipush {d Nc Ns n0 : Nat} {M : zkY} {cs' : List va_E} {cc ss pc : Nat} {lv : List (Option Value)} {st : List Value} {cs : List va_E} {n : Int} {v : Int32} (hd : decode M.2.1 pc = .ok (.sipush n, 3)) (hv : (Int16.ofInt n).toInt32 = v) (kk : zk_A d Nc Ns n0 M cs' cc ss (pc + 3) lv (.int v :: st) cs) : zk_A d Nc Ns n0 M cs' cc ss pc lv st cs := by
  intro p l e s m args below meth c D α κ A H locs ls hF hI hP hD hS hl hw
  exact lv_sipush hF.1 hF.2.1 hd hv (kk p l e s m args below meth c D α κ A H locs ls hF hI hP hD hS hl hw)
theorem zk_Alconst {d Nc Ns n0 : Nat} {M : zkY} {cs' : List va_E} {cc ss pc : Nat} {lv : List (Option Value)} {st : List Value} {cs : List va_E} {n : Fin 2} {v : Int64} (hd : decode M.2.1 pc = .ok (.lconst n, 1)) (hv : Int64.ofNat (n : Nat) = v) (kk : zk_A d Nc Ns n0 M cs' cc ss (pc + 1) lv (.long v :: st) cs) : zk_A d Nc Ns n0 M cs' cc ss pc lv st cs := by
  intro p l e s m args below meth c D α κ A H locs ls hF hI hP hD hS hl hw
  exact lv_lconst hF.1 hF.2.1 hd hv (kk p l e s m args below meth c D α κ A H locs ls hF hI hP hD hS hl hw)
theorem zk_Aiload_n {d Nc Ns n0 : Nat} {M : zkY} {cs' : List va_E} {cc ss pc : Nat} {lv : List (Option Value)} {st : List Value} {cs : List va_E} {j : Fin 4} {i : Nat} {x : Int32} (hd : decode M.2.1 pc = .ok (.iload_n j, 1)) (hi : (j : Nat) = i) (hv : lv[i]? = some (some (.int x))) (kk : zk_A d Nc Ns n0 M cs' cc ss (pc + 1) lv (.int x :: st) cs) : zk_A d Nc Ns n0 M cs' cc ss pc lv st cs := by
  intro p l e s m args below meth c D α κ A H locs ls hF hI hP hD hS hl hw
  exact lv_iload_n hF.1 hF.2.1 hd hi (hl.2.2 i _ hv) (kk p l e s m args below meth c D α κ A H locs ls hF hI hP hD hS hl hw)
theorem zk_Aaload_n {d Nc Ns n0 : Nat} {M : zkY} {cs' : List va_E} {cc ss pc : Nat} {lv : List (Option Value)} {st : List Value} {cs : List va_E} {j : Fin 4} {i : Nat} {x : Nat} (hd : decode M.2.1 pc = .ok (.aload_n j, 1)) (hi : (j : Nat) = i) (hv : lv[i]? = some (some (.ref x))) (kk : zk_A d Nc Ns n0 M cs' cc ss (pc + 1) lv (.ref x :: st) cs) : zk_A d Nc Ns n0 M cs' cc ss pc lv st cs := by
  intro p l e s m args below meth c D α κ A H locs ls hF hI hP hD hS hl hw
  exact lv_aload_n hF.1 hF.2.1 hd hi (hl.2.2 i _ hv) (kk p l e s m args below meth c D α κ A H locs ls hF hI hP hD hS hl hw)
theorem zk_Aiadd {d Nc Ns n0 : Nat} {M : zkY} {cs' : List va_E} {cc ss pc : Nat} {lv : List (Option Value)} {st : List Value} {cs : List va_E} {x y v : Int32} (hd : decode M.2.1 pc = .ok (.iadd, 1)) (hv : x + y = v) (kk : zk_A d Nc Ns n0 M cs' cc ss (pc + 1) lv (.int v :: st) cs) : zk_A d Nc Ns n0 M cs' cc ss pc lv (.int y :: .int x :: st) cs := by
  intro p l e s m args below meth c D α κ A H locs ls hF hI hP hD hS hl hw
  exact (by subst hv; exact lv_iadd hF.1 hF.2.1 hd (kk p l e s m args below meth c D α κ A H locs ls hF hI hP hD hS hl hw)) -- (kk p l e s m args below meth c D α κ A H locs ls hF hI hP hD hS hl hw)
theorem zk_Adup {d Nc Ns n0 : Nat} {M : zkY} {cs' : List va_E} {cc ss pc : Nat} {lv : List (Option Value)} {st : List Value} {cs : List va_E} {v : Value} (hd : decode M.2.1 pc = .ok (.dup, 1)) (hc : v.category = 1) (kk : zk_A d Nc Ns n0 M cs' cc ss (pc + 1) lv (v :: v :: st) cs) : zk_A d Nc Ns n0 M cs' cc ss pc lv (v :: st) cs := by
  intro p l e s m args below meth c D α κ A H locs ls hF hI hP hD hS hl hw
  exact lv_dup hF.1 hF.2.1 hd (by rw [zk_cv_cat]; exact hc) (kk p l e s m args below meth c D α κ A H locs ls hF hI hP hD hS hl hw)
theorem zk_Aistore_n {d Nc Ns n0 : Nat} {M : zkY} {cs' : List va_E} {cc ss pc : Nat} {lv : List (Option Value)} {st : List Value} {cs : List va_E} {j : Fin 4} {i : Nat} {x : Int32} (hd : decode M.2.1 pc = .ok (.istore_n j, 1)) (hi : (j : Nat) = i) (hn : i < M.2.2.1) (hc : zk_nl lv i = true) (kk : zk_A d Nc Ns n0 M cs' cc ss (pc + 1) (lv.set i (some (.int x))) st cs) : zk_A d Nc Ns n0 M cs' cc ss pc lv (.int x :: st) cs := by
  intro p l e s m args below meth c D α κ A H locs ls hF hI hP hD hS hl hw
  exact lv_istore_n hF.1 hF.2.1 hd hi hl.has hn rfl (fun ls' h' => kk p l e s m args below meth c D α κ A H locs ls' hF hI hP hD hS (zk_lv.st1 hc (v := .int x) h') hw)
theorem zk_Aiinc {d Nc Ns n0 : Nat} {M : zkY} {cs' : List va_E} {cc ss pc : Nat} {lv : List (Option Value)} {st : List Value} {cs : List va_E} {i : Nat} {n : Int} {x v : Int32} (hd : decode M.2.1 pc = .ok (.iinc i n, 3)) (hv : lv[i]? = some (some (.int x))) (he : x + Int32.ofInt n = v) (hn : i < M.2.2.1) (hc : zk_nl lv i = true) (kk : zk_A d Nc Ns n0 M cs' cc ss (pc + 3) (lv.set i (some (.int v))) st cs) : zk_A d Nc Ns n0 M cs' cc ss pc lv st cs := by
  intro p l e s m args below meth c D α κ A H locs ls hF hI hP hD hS hl hw
  obtain ⟨q, hq⟩ := List.getElem?_of_mem (zk_pr_mem (α := α) hv)
  exact lv_iinc hF.1 hF.2.1 hd hl.has hq he hn rfl (fun ls' h' => kk p l e s m args below meth c D α κ A H locs ls' hF hI hP hD hS (zk_lv.st1 hc (v := .int v) h') hw)
theorem zk_Aicmp_ge {d Nc Ns n0 : Nat} {M : zkY} {cs' : List va_E} {cc ss pc : Nat} {lv : List (Option Value)} {st : List Value} {cs : List va_E} {x y : Int32} {off : Int} (tgt : Nat) (hd : decode M.2.1 pc = .ok (.if_icmp .ge off, 3)) (ht : (pc : Int) + off = (tgt : Int)) (kt : y ≤ x → zk_A d Nc Ns n0 M cs' cc ss tgt lv st cs) (kf : ¬ y ≤ x → zk_A d Nc Ns n0 M cs' cc ss (pc + 3) lv st cs) : zk_A d Nc Ns n0 M cs' cc ss pc lv (.int y :: .int x :: st) cs := by
  intro p l e s m args below meth c D α κ A H locs ls hF hI hP hD hS hl hw
  exact lv_icmp_ge hF.1 hF.2.1 hd ht (fun z => kt z p l e s m args below meth c D α κ A H locs ls hF hI hP hD hS hl hw) (fun z => kf z p l e s m args below meth c D α κ A H locs ls hF hI hP hD hS hl hw)
theorem zk_Agoto {d Nc Ns n0 : Nat} {M : zkY} {cs' : List va_E} {cc ss pc : Nat} {lv : List (Option Value)} {st : List Value} {cs : List va_E} {off : Int} (tgt : Nat) (hd : decode M.2.1 pc = .ok (.goto off, 3)) (ht : (pc : Int) + off = (tgt : Int)) (kk : zk_A d Nc Ns n0 M cs' cc ss tgt lv st cs) : zk_A d Nc Ns n0 M cs' cc ss pc lv st cs := by
  intro p l e s m args below meth c D α κ A H locs ls hF hI hP hD hS hl hw
  exact lv_goto hF.1 hF.2.1 hd ht (kk p l e s m args below meth c D α κ A H locs ls hF hI hP hD hS hl hw)
theorem zk_AgetR {d Nc Ns n0 : Nat} {M : zkY} {cs' : List va_E} {cc ss pc : Nat} {lv : List (Option Value)} {st : List Value} {cs : List va_E} (k ci f j : Nat) {fs : List Value} {idx : Nat} (hd : decode M.2.1 pc = .ok (.getfield idx, 3)) (hf : zk_fl M.1.cls idx ci f) (hk : cs[k]? = some (.inr (ci, fs))) (hv : fs[f]? = some (.ref j)) (kk : zk_A d Nc Ns n0 M cs' cc ss (pc + 3) lv (.ref j :: st) cs) : zk_A d Nc Ns n0 M cs' cc ss pc lv (.ref k :: st) cs := by
  intro p l e s m args below meth c D α κ A H locs ls hF hI hP hD hS hl hw
  obtain ⟨C, T, N, ⟨o1, o2, o3, o4, o5⟩, hfN, hlk⟩ := hf
  exact va_get hF.1 hF.2.1 hF.2.2.2.2.2.2.1 (fun w h => List.mem_cons_of_mem _ (o3 w h)) hF.2.2.2.2.2.1 hF.2.2.2.2.2.2.2.1 hP k (fs := fs.map (zk_cv α)) (zk_cw_get hk) o1 f hfN (hF.ts hlk) (fun _ h => h) (v := .ref (α j)) (by rw [List.getElem?_map, hv]; rfl) hd (kk p l e s m args below meth c D α κ A H locs ls hF hI hP hD hS hl hw)
theorem zk_Agets {d Nc Ns n0 : Nat} {M : zkY} {cs' : List va_E} {cc ss pc : Nat} {lv : List (Option Value)} {st : List Value} {cs : List va_E} (j : Nat) {q : String × List Int32} {idx : Nat} (hd : decode M.2.1 pc = .ok (.getstatic idx, 3)) (hq : zk_stt[j]? = some q) (hlk : Cond.fieldLink M.1.cls idx "TreePlanks$Script" q.1 "[I" ∈ zk_tb) (kk : zk_A d Nc Ns n0 M cs' cc ss (pc + 3) lv (.ref (1000 + j) :: st) cs) : zk_A d Nc Ns n0 M cs' cc ss pc lv st cs := by
  intro p l e s m args below meth c D α κ A H locs ls hF hI hP hD hS hl hw
  exact va_gets hF.1 hF.2.1 (hF.2.2.2.2.2.2.2.2.2 j q hq).1 hS hF.2.2.2.2.2.1 (hF.ts hlk) (fun _ h => h) hd (kk p l e s m args below meth c D α κ A H locs ls hF hI hP hD hS hl hw)
theorem zk_AalenR {d Nc Ns n0 : Nat} {M : zkY} {cs' : List va_E} {cc ss pc : Nat} {lv : List (Option Value)} {st : List Value} {cs : List va_E} (j : Nat) {q : String × List Int32} {v : Int32} (hd : decode M.2.1 pc = .ok (.arraylength, 1)) (hq : zk_stt[j]? = some q) (hv : Int32.ofNat q.2.length = v) (kk : zk_A d Nc Ns n0 M cs' cc ss (pc + 1) lv (.int v :: st) cs) : zk_A d Nc Ns n0 M cs' cc ss pc lv (.ref (1000 + j) :: st) cs := by
  intro p l e s m args below meth c D α κ A H locs ls hF hI hP hD hS hl hw
  exact va_tlen hF.1 hF.2.1 (hF.2.2.2.2.2.2.2.2.2 j q hq).2 hS hv hd (kk p l e s m args below meth c D α κ A H locs ls hF hI hP hD hS hl hw)
def zk_ff (own : String) (idx ci f : Nat) : Prop := ∃ C T N, zk_ok ci C T N ∧ f < N ∧ Cond.fieldLink own idx (T f).1 (T f).2.1 (T f).2.2.1 ∈ zk_tb ∧ (T f).2.2.2 = true ∧ (T f).1 = own
theorem zk_Aput {d Nc Ns n0 : Nat} {M : zkY} {cs' : List va_E} {cc ss pc : Nat} {lv : List (Option Value)} {st : List Value} {cs : List va_E} (k ci f : Nat) {fs : List Value} {v : Value} {idx : Nat} (hd : decode M.2.1 pc = .ok (.putfield idx, 3)) (hf : zk_fp M.1.cls idx ci f) (hk : cs[k]? = some (.inr (ci, fs))) (hl9 : f < fs.length) (hn : ∀ α, narrow (zk_ty ci f) (zk_cv α v) = zk_cv α v) (hfit : ∀ α, fits (zk_ty ci f) (zk_cv α v) = true) (hvb : zk_vb cs.length v = true) (kk : zk_A d Nc Ns n0 M cs' cc ss (pc + 3) lv st (cs.set k (.inr (ci, fs.set f v)))) : zk_A d Nc Ns n0 M cs' cc ss pc lv (v :: .ref k :: st) cs := by
  intro p l e s m args below meth c D α κ A H locs ls hF hI hP hD hS hl hw
  obtain ⟨C, T, N, ⟨o1, o2, o3, o4, o5⟩, hfN, hlk, hfin⟩ := hf
  refine va_put hF.1 hF.2.1 hF.2.2.2.2.2.2.1 (fun w h => List.mem_cons_of_mem _ (o3 w h)) (zk_ty ci) o4 o5 hF.2.2.2.2.2.1 hF.2.2.2.2.2.2.2.1 hP hD hS k (fs := fs.map (zk_cv α)) (zk_cw_get hk) o1 f hfN (hF.ts hlk) (fun _ h => h) hfin (v := zk_cv α v) (o4 f hfN) (hn α) (hfit α) (by rw [List.length_map]; exact hl9) hd (fun H1 locs1 hP1 hD1 hS1 => ?_)
  have he : (zk_cw α κ cs).set k (α k, .inr (ci, (fs.map (zk_cv α)).set f (zk_cv α v))) = zk_cw α κ (cs.set k (.inr (ci, fs.set f v))) := by
    rw [← zk_cw_set]
    show _ = (zk_cw α κ cs).set k (α k, .inr (ci, (fs.set f v).map (zk_cv α)))
    rw [List.map_set]
  rw [he] at hP1 hD1
  have hwc := hw.1 _ (List.mem_of_getElem? hk)
  exact kk p l e s m args below meth c D α κ A H1 locs1 ls hF hI hP1 hD1 hS1 hl ⟨zk_wfs_set hw.1 (fun j hj => by
    rcases List.mem_or_eq_of_mem_set hj with h1 | h1
    · exact hwc j h1
    · subst h1; exact Nat.le_of_ble_eq_true hvb), by rw [List.length_set]; exact hw.2⟩
theorem zk_AputF {d Nc Ns n0 : Nat} {M : zkY} {cs' : List va_E} {cc ss pc : Nat} {lv : List (Option Value)} {st : List Value} {cs : List va_E} (k ci f : Nat) {fs : List Value} {v : Value} {idx : Nat} (hd : decode M.2.1 pc = .ok (.putfield idx, 3)) (hf : zk_ff M.1.cls idx ci f) (hk : cs[k]? = some (.inr (ci, fs))) (hl9 : f < fs.length) (hn : ∀ α, narrow (zk_ty ci f) (zk_cv α v) = zk_cv α v) (hfit : ∀ α, fits (zk_ty ci f) (zk_cv α v) = true) (hvb : zk_vb cs.length v = true) (kk : zk_A d Nc Ns n0 M cs' cc ss (pc + 3) lv st (cs.set k (.inr (ci, fs.set f v)))) : zk_A d Nc Ns n0 M cs' cc ss pc lv (v :: .ref k :: st) cs := by
  intro p l e s m args below meth c D α κ A H locs ls hF hI hP hD hS hl hw
  obtain ⟨C, T, N, ⟨o1, o2, o3, o4, o5⟩, hfN, hlk, hfin, hdecl⟩ := hf
  refine va_putF hF.1 hF.2.1 hF.2.2.2.2.2.2.1 (fun w h => List.mem_cons_of_mem _ (o3 w h)) (zk_ty ci) o4 o5 hF.2.2.2.2.2.1 hF.2.2.2.2.2.2.2.1 hP hD hS k (fs := fs.map (zk_cv α)) (zk_cw_get hk) o1 f hfN (hF.ts hlk) (fun _ h => h) hfin hI.1 hdecl (v := zk_cv α v) (o4 f hfN) (hn α) (hfit α) (by rw [List.length_map]; exact hl9) hd (fun H1 locs1 hP1 hD1 hS1 => ?_)
  have he : (zk_cw α κ cs).set k (α k, .inr (ci, (fs.map (zk_cv α)).set f (zk_cv α v))) = zk_cw α κ (cs.set k (.inr (ci, fs.set f v))) := by
    rw [← zk_cw_set]
    show _ = (zk_cw α κ cs).set k (α k, .inr (ci, (fs.set f v).map (zk_cv α)))
    rw [List.map_set]
  rw [he] at hP1 hD1
  have hwc := hw.1 _ (List.mem_of_getElem? hk)
  exact kk p l e s m args below meth c D α κ A H1 locs1 ls hF hI hP1 hD1 hS1 hl ⟨zk_wfs_set hw.1 (fun j hj => by
    rcases List.mem_or_eq_of_mem_set hj with h1 | h1
    · exact hwc j h1
    · subst h1; exact Nat.le_of_ble_eq_true hvb), by rw [List.length_set]; exact hw.2⟩
theorem zk_Aiast {d Nc Ns n0 : Nat} {M : zkY} {cs' : List va_E} {cc ss pc : Nat} {lv : List (Option Value)} {st : List Value} {cs : List va_E} (k n : Nat) {f : Nat → Int32} {i x : Int32} (hd : decode M.2.1 pc = .ok (.iastore, 1)) (hk : cs[k]? = some (.inl (0, n, .inl f))) (hin : vp_in i n) (kk : zk_A d Nc Ns n0 M cs' cc ss (pc + 1) lv st (cs.set k (.inl (0, n, .inl (upd f i.toNatClampNeg x))))) : zk_A d Nc Ns n0 M cs' cc ss pc lv (.int x :: .int i :: .ref k :: st) cs := by
  intro p l e s m args below meth c D α κ A H locs ls hF hI hP hD hS hl hw
  refine va_iast hF.1 hF.2.1 hF.2.2.2.2.2.2.2.1 hP hD hS k 0 (cA := κ 0) (n := n) (f := f) (zk_cw_get hk) rfl hin hd (fun H1 locs1 hP1 hD1 hS1 => ?_)
  have he : (zk_cw α κ cs).set k (α k, .inl (κ 0, n, .inl (upd f i.toNatClampNeg x))) = zk_cw α κ (cs.set k (.inl (0, n, .inl (upd f i.toNatClampNeg x)))) := by
    rw [← zk_cw_set]; rfl
  rw [he] at hP1 hD1
  exact kk p l e s m args below meth c D α κ A H1 locs1 ls hF hI hP1 hD1 hS1 hl ⟨zk_wfs_set hw.1 trivial, by rw [List.length_set]; exact hw.2⟩
theorem zk_Aobj {d Nc Ns n0 : Nat} {M : zkY} {cs' : List va_E} {cc ss pc : Nat} {lv : List (Option Value)} {st : List Value} {cs : List va_E} {k idx : Nat} (hd : decode M.2.1 pc = .ok (.invokespecial idx, 3)) (hlk : Cond.methodLink M.1.cls idx Lib.objectInit ∈ zk_tb) (hw9 : Cond.instanceMethod Lib.objectInit ∈ zk_tb ∧ Cond.code Lib.objectInit ⟨#[0xb1]⟩ 1 none ∈ zk_tb) (hcat : (st.map fun v => v.category).sum ≤ 8) (kk : zk_A d Nc Ns n0 M cs' cc ss (pc + 3) lv st cs) : zk_A d Nc Ns n0 M cs' cc ss pc lv (.ref k :: st) cs := by
  intro p l e s m args below meth c D α κ A H locs ls hF hI hP hD hS hl hw
  refine W.objInit hF.1 hF.2.1 hF.2.2.2.2.2.1 (hF.ts hlk) (hF.ts hw9.1) (hF.ts hw9.2) rfl (hl.1.trans hF.2.2.1.symm) rfl hd (by show 1 ≤ d + 1; omega) ?_ ?_
  · have := lv_room (m := m) (pc := pc) (ls := ls) (rest := (Value.ref k :: st).map (zk_cv α)) (st := st.map (zk_cv α)) (by rw [zk_cat]; exact hcat)
    show _ ≤ 64 * d + 64
    omega
  · exact kk p l e s m args below meth c D α κ A H locs ls hF hI hP hD hS hl hw
theorem zk_Anew {d Nc Ns n0 : Nat} {M : zkY} {cs' : List va_E} {cc ss pc : Nat} {lv : List (Option Value)} {st : List Value} {cs : List va_E} (ci : Nat) {C : String} {T : u_T} {N : Nat} {fs : List Value} {idx : Nat} (hd : decode M.2.1 pc = .ok (.new idx, 3)) (hok : zk_ok ci C T N) (hwd : Cond.classLink M.1.cls idx C ∈ zk_tb ∧ Cond.instantiable C N ∈ zk_tb ∧ Cond.initialized C ∈ zk_tb) (hfs : ∀ j, j < N → defaultValue (zk_ty ci j) = vp_V fs j) (hnr : ∀ k, Value.ref k ∉ fs) (hlt : cs.length < 1000) (hvb : zk_vbs cs.length lv st = true) (hcc : cc + 1 ≤ Nc) (hss : ss + N ≤ Ns) (kk : zk_A d Nc Ns n0 M cs' (cc + 1) (ss + N) (pc + 3) lv (.ref cs.length :: st) (cs ++ [.inr (ci, fs)])) : zk_A d Nc Ns n0 M cs' cc ss pc lv st cs := by
  intro p l e s m args below meth c D α κ A H locs ls hF hI hP hD hS hl hw
  refine va_new (ci := ci) (fs := fs) hF.1 hF.2.1 hF.2.2.2.2.2.2.1 (fun w h => List.mem_cons_of_mem _ (hok.2.2.1 w h)) (zk_ty ci) hok.2.2.2.1 hF.2.2.2.2.2.1 (hF.ts hwd.1) (hF.ts hwd.2.1) (hF.ts hwd.2.2) hF.2.2.2.2.2.2.2.1 hP hD hS hI.2.1 hok.1 hfs hcc hss hd (fun q H1 hP1 hD1 hS1 => ?_)
  have ha : ∀ k, k < cs.length → (fun k => if k = cs.length then q else α k) k = α k := zk_at_new
  have hj : ∀ j, (fun k => if k = cs.length then q else α k) (1000 + j) = α (1000 + j) := fun j => if_neg (by omega)
  have hfm : fs.map (zk_cv (fun k => if k = cs.length then q else α k)) = fs := by
    rw [List.map_congr_left (g := id) (fun v hv => ?_), List.map_id]
    cases v <;> first | rfl | exact absurd hv (hnr _)
  have he : zk_cw α κ cs ++ [(q, .inr (ci, fs))] = zk_cw (fun k => if k = cs.length then q else α k) κ (cs ++ [.inr (ci, fs)]) := by
    rw [zk_cw_push, zk_cw_congr ha hw.1]
    show _ = _ ++ [((if cs.length = cs.length then q else α cs.length), Sum.inr (ci, fs.map _))]
    rw [if_pos rfl, hfm]
  rw [he] at hP1 hD1
  have kq := kk p l e s m args below meth c D (fun k => if k = cs.length then q else α k) κ A H1 locs ls ⟨hF.1, hF.2.1, hF.2.2.1, hF.2.2.2.1, hF.2.2.2.2.1, hF.2.2.2.2.2.1, hF.2.2.2.2.2.2.1, hF.2.2.2.2.2.2.2.1, hF.2.2.2.2.2.2.2.2.al hj⟩ hI hP1 hD1 hS1 (zk_vbs_lv ha hvb hl) ⟨zk_wfs_push hw.1 (fun k hk => absurd hk (hnr k)), by rw [List.length_append]; exact Nat.le_trans hw.2 (Nat.le_add_right _ _)⟩
  rw [List.map_cons, zk_vbs_st ha hvb] at kq
  have e9 : zk_cv (fun k => if k = cs.length then q else α k) (.ref cs.length) = .ref q := by show Value.ref (if cs.length = cs.length then q else α cs.length) = _; rw [if_pos rfl]
  rw [e9] at kq
  exact zk_W_mono (fun a s o t h => zk_ZA.al hw.2 ha hj h) kq
/-- the array's class is the one that the tables find -/
theorem zk_cls {D : va_G} {κ : Nat → ClassId} {s : State} {cA : ClassId} {q : Nat} {ty : FieldType} (hty : (zk_tys κ)[q]? = some (κ q, ty)) (hp : ∀ C, ty ≠ .object C) (hK : va_K D vwCl (zk_tys κ) s) {tys : List (ClassId × FieldType)} (hK1 : va_K D vwCl (tys ++ [(cA, ty)]) s) : cA = κ q := by
  have h1 := (hK.2 q _ hty).2
  have h2 := (hK1.2 tys.length (cA, ty) (by simp)).2
  unfold va_RA at h1 h2
  cases ty <;> first | exact absurd rfl (hp _) | exact Option.some.inj (h2.symm.trans h1)
theorem zk_AnewaI {d Nc Ns n0 : Nat} {M : zkY} {cs' : List va_E} {cc ss pc : Nat} {lv : List (Option Value)} {st : List Value} {cs : List va_E} (N : Nat) {n : Int32} (hd : decode M.2.1 pc = .ok (.newarray .int, 2)) (harr : Cond.arrayClass .int ∈ zk_tb) (hn : ¬ n < 0) (hN : n.toNatClampNeg = N) (hb : N * componentBytes .int ≤ 536870912) (hlt : cs.length < 1000) (hvb : zk_vbs cs.length lv st = true) (hcc : cc + 1 ≤ Nc) (hss : ss + N ≤ Ns) (kk : zk_A d Nc Ns n0 M cs' (cc + 1) (ss + N) (pc + 2) lv (.ref cs.length :: st) (cs ++ [.inl (0, N, .inl (fun _ => 0))])) : zk_A d Nc Ns n0 M cs' cc ss pc lv (.int n :: st) cs := by
  intro p l e s m args below meth c D α κ A H locs ls hF hI hP hD hS hl hw
  refine va_newa hF.1 hF.2.1 (atype := .int) (ty := .int) (hF.ts harr) rfl hF.2.2.2.2.2.2.2.1 hP hD hS hI.2.1 (a0 := (N, .inl (fun _ => 0))) (fun cA => rfl) hn hN hb hcc hss hd (fun q cA H1 hK1 hP1 hD1 hS1 => ?_)
  have hcA : cA = κ 0 := zk_cls (κ := κ) (q := 0) rfl (fun C h => by cases h) hF.2.2.2.2.2.2.2.1 hK1
  subst hcA
  have ha : ∀ k, k < cs.length → (fun k => if k = cs.length then q else α k) k = α k := zk_at_new
  have hj : ∀ j, (fun k => if k = cs.length then q else α k) (1000 + j) = α (1000 + j) := fun j => if_neg (by omega)
  have he : zk_cw α κ cs ++ [(q, .inl (κ 0, (N, .inl (fun _ => 0))))] = zk_cw (fun k => if k = cs.length then q else α k) κ (cs ++ [.inl (0, (N, .inl (fun _ => 0)))]) := by
    rw [zk_cw_push, zk_cw_congr ha hw.1]
    show _ = _ ++ [((if cs.length = cs.length then q else α cs.length), (Sum.inl (κ 0, (N, .inl (fun _ => 0))) : va_E))]
    rw [if_pos rfl]
  rw [he] at hP1 hD1
  have kq := kk p l e s m args below meth c D (fun k => if k = cs.length then q else α k) κ A H1 locs ls ⟨hF.1, hF.2.1, hF.2.2.1, hF.2.2.2.1, hF.2.2.2.2.1, hF.2.2.2.2.2.1, hF.2.2.2.2.2.2.1, hF.2.2.2.2.2.2.2.1, hF.2.2.2.2.2.2.2.2.al hj⟩ hI hP1 hD1 hS1 (zk_vbs_lv ha hvb hl) ⟨zk_wfs_push hw.1 trivial, by rw [List.length_append]; exact Nat.le_trans hw.2 (Nat.le_add_right _ _)⟩
  rw [List.map_cons, zk_vbs_st ha hvb] at kq
  have e9 : zk_cv (fun k => if k = cs.length then q else α k) (.ref cs.length) = .ref q := by show Value.ref (if cs.length = cs.length then q else α cs.length) = _; rw [if_pos rfl]
  rw [e9] at kq
  exact zk_W_mono (fun a s o t h => zk_ZA.al hw.2 ha hj h) kq
theorem zk_AnewaZ {d Nc Ns n0 : Nat} {M : zkY} {cs' : List va_E} {cc ss pc : Nat} {lv : List (Option Value)} {st : List Value} {cs : List va_E} (N : Nat) {n : Int32} (hd : decode M.2.1 pc = .ok (.newarray .boolean, 2)) (harr : Cond.arrayClass .boolean ∈ zk_tb) (hn : ¬ n < 0) (hN : n.toNatClampNeg = N) (hb : N * componentBytes .boolean ≤ 536870912) (hlt : cs.length < 1000) (hvb : zk_vbs cs.length lv st = true) (hcc : cc + 1 ≤ Nc) (hss : ss + N ≤ Ns) (kk : zk_A d Nc Ns n0 M cs' (cc + 1) (ss + N) (pc + 2) lv (.ref cs.length :: st) (cs ++ [.inl (1, N, .inl (fun _ => 0))])) : zk_A d Nc Ns n0 M cs' cc ss pc lv (.int n :: st) cs := by
  intro p l e s m args below meth c D α κ A H locs ls hF hI hP hD hS hl hw
  refine va_newa hF.1 hF.2.1 (atype := .boolean) (ty := .boolean) (hF.ts harr) rfl hF.2.2.2.2.2.2.2.1 hP hD hS hI.2.1 (a0 := (N, .inl (fun _ => 0))) (fun cA => rfl) hn hN hb hcc hss hd (fun q cA H1 hK1 hP1 hD1 hS1 => ?_)
  have hcA : cA = κ 1 := zk_cls (κ := κ) (q := 1) rfl (fun C h => by cases h) hF.2.2.2.2.2.2.2.1 hK1
  subst hcA
  have ha : ∀ k, k < cs.length → (fun k => if k = cs.length then q else α k) k = α k := zk_at_new
  have hj : ∀ j, (fun k => if k = cs.length then q else α k) (1000 + j) = α (1000 + j) := fun j => if_neg (by omega)
  have he : zk_cw α κ cs ++ [(q, .inl (κ 1, (N, .inl (fun _ => 0))))] = zk_cw (fun k => if k = cs.length then q else α k) κ (cs ++ [.inl (1, (N, .inl (fun _ => 0)))]) := by
    rw [zk_cw_push, zk_cw_congr ha hw.1]
    show _ = _ ++ [((if cs.length = cs.length then q else α cs.length), (Sum.inl (κ 1, (N, .inl (fun _ => 0))) : va_E))]
    rw [if_pos rfl]
  rw [he] at hP1 hD1
  have kq := kk p l e s m args below meth c D (fun k => if k = cs.length then q else α k) κ A H1 locs ls ⟨hF.1, hF.2.1, hF.2.2.1, hF.2.2.2.1, hF.2.2.2.2.1, hF.2.2.2.2.2.1, hF.2.2.2.2.2.2.1, hF.2.2.2.2.2.2.2.1, hF.2.2.2.2.2.2.2.2.al hj⟩ hI hP1 hD1 hS1 (zk_vbs_lv ha hvb hl) ⟨zk_wfs_push hw.1 trivial, by rw [List.length_append]; exact Nat.le_trans hw.2 (Nat.le_add_right _ _)⟩
  rw [List.map_cons, zk_vbs_st ha hvb] at kq
  have e9 : zk_cv (fun k => if k = cs.length then q else α k) (.ref cs.length) = .ref q := by show Value.ref (if cs.length = cs.length then q else α cs.length) = _; rw [if_pos rfl]
  rw [e9] at kq
  exact zk_W_mono (fun a s o t h => zk_ZA.al hw.2 ha hj h) kq
theorem zk_AnewaL {d Nc Ns n0 : Nat} {M : zkY} {cs' : List va_E} {cc ss pc : Nat} {lv : List (Option Value)} {st : List Value} {cs : List va_E} (N : Nat) {n : Int32} (hd : decode M.2.1 pc = .ok (.newarray .long, 2)) (harr : Cond.arrayClass .long ∈ zk_tb) (hn : ¬ n < 0) (hN : n.toNatClampNeg = N) (hb : N * componentBytes .long ≤ 536870912) (hlt : cs.length < 1000) (hvb : zk_vbs cs.length lv st = true) (hcc : cc + 1 ≤ Nc) (hss : ss + N ≤ Ns) (kk : zk_A d Nc Ns n0 M cs' (cc + 1) (ss + N) (pc + 2) lv (.ref cs.length :: st) (cs ++ [.inl (2, N, .inr (.inl (fun _ => 0)))])) : zk_A d Nc Ns n0 M cs' cc ss pc lv (.int n :: st) cs := by
  intro p l e s m args below meth c D α κ A H locs ls hF hI hP hD hS hl hw
  refine va_newa hF.1 hF.2.1 (atype := .long) (ty := .long) (hF.ts harr) rfl hF.2.2.2.2.2.2.2.1 hP hD hS hI.2.1 (a0 := (N, .inr (.inl (fun _ => 0)))) (fun cA => rfl) hn hN hb hcc hss hd (fun q cA H1 hK1 hP1 hD1 hS1 => ?_)
  have hcA : cA = κ 2 := zk_cls (κ := κ) (q := 2) rfl (fun C h => by cases h) hF.2.2.2.2.2.2.2.1 hK1
  subst hcA
  have ha : ∀ k, k < cs.length → (fun k => if k = cs.length then q else α k) k = α k := zk_at_new
  have hj : ∀ j, (fun k => if k = cs.length then q else α k) (1000 + j) = α (1000 + j) := fun j => if_neg (by omega)
  have he : zk_cw α κ cs ++ [(q, .inl (κ 2, (N, .inr (.inl (fun _ => 0)))))] = zk_cw (fun k => if k = cs.length then q else α k) κ (cs ++ [.inl (2, (N, .inr (.inl (fun _ => 0))))]) := by
    rw [zk_cw_push, zk_cw_congr ha hw.1]
    show _ = _ ++ [((if cs.length = cs.length then q else α cs.length), (Sum.inl (κ 2, (N, .inr (.inl (fun _ => 0)))) : va_E))]
    rw [if_pos rfl]
  rw [he] at hP1 hD1
  have kq := kk p l e s m args below meth c D (fun k => if k = cs.length then q else α k) κ A H1 locs ls ⟨hF.1, hF.2.1, hF.2.2.1, hF.2.2.2.1, hF.2.2.2.2.1, hF.2.2.2.2.2.1, hF.2.2.2.2.2.2.1, hF.2.2.2.2.2.2.2.1, hF.2.2.2.2.2.2.2.2.al hj⟩ hI hP1 hD1 hS1 (zk_vbs_lv ha hvb hl) ⟨zk_wfs_push hw.1 trivial, by rw [List.length_append]; exact Nat.le_trans hw.2 (Nat.le_add_right _ _)⟩
  rw [List.map_cons, zk_vbs_st ha hvb] at kq
  have e9 : zk_cv (fun k => if k = cs.length then q else α k) (.ref cs.length) = .ref q := by show Value.ref (if cs.length = cs.length then q else α cs.length) = _; rw [if_pos rfl]
  rw [e9] at kq
  exact zk_W_mono (fun a s o t h => zk_ZA.al hw.2 ha hj h) kq
theorem zk_Aret {d Nc Ns n0 : Nat} {M : zkY} {cs' : List va_E} {cc ss pc : Nat} {lv : List (Option Value)} {cs : List va_E} (hd : decode M.2.1 pc = .ok (.return_, 1)) (hrt : M.2.2.2 = none) (hcs : cs = cs') (hcc : cc = Nc) (hss : ss = Ns) : zk_A d Nc Ns n0 M cs' cc ss pc lv [] cs := by
  intro p l e s m args below meth c D α κ A H locs ls hF hI hP hD hS hl hw
  subst hcs; subst hcc; subst hss
  exact W.vret hF.1 hF.2.1 (hF.2.2.2.1.trans hrt) (fun t ht hW => ⟨α, fun _ _ => rfl, fun _ => rfl, rfl, by rw [ht]; exact hP, hD, by rw [ht]; exact hF.2.2.2.2.2.2.2.2.go hS hW, va_K.moved hW.alike hF.2.2.2.2.2.2.2.1, hw.1, hw.2, hS.F ht⟩) hS.2.2 hd hF.2.2.2.2.1
theorem zk_Ameet {d Nc Ns : Nat} {M : zkY} {as : List Value} {cs cs' : List va_E} {n : Nat} {lv : List (Option Value)} (hy : plainName M.1.cls = true) (hnm : M.1.name = "<init>") (hlv : zk_ent as ++ List.replicate n none = lv) (hz : (as.map fun v => v.category).sum ≤ M.2.2.1)
    (k : zk_A d Nc Ns cs.length M cs' 0 0 0 lv [] cs) : zk_XA d Nc Ns M as cs cs' := by
  intro l D α κ A
  refine Met.ofW (cc := M.2.1) (maxL := M.2.2.1) (ret := M.2.2.2) hy rfl ?_
  intro p e s m args below meth c s₁ B hml hv
  obtain ⟨rfl, hA, hwf, hP, hK, hD, hR, hO⟩ := hv
  have hlen : (lg_sl (as.map (zk_cv α))).length ≤ M.2.2.1 := by
    have : ∀ xs : List Value, (lg_sl xs).length = (xs.map fun v => v.category).sum := by
      intro xs
      induction xs with
      | nil => rfl
      | cons x xs ih =>
        unfold lg_sl at ih ⊢
        rw [List.flatMap_cons, List.length_append, ih, List.map_cons, List.sum_cons]
        cases x <;> rfl
    rw [this, zk_cat]
    exact hz
  have hl := lv_entry (as.map (zk_cv α)) (n := M.2.2.1) hlen
  rw [lg_entry_eq]
  generalize (lg_sl (as.map (zk_cv α)) ++ List.replicate (M.2.2.1 - (lg_sl (as.map (zk_cv α))).length) Slot.unset).toArray = ls at hl ⊢
  have hin : meth.name = "<init>" := ((name_of_methodNamed B.named B.method).1).trans hnm
  exact k p l e s m _ below meth c D α κ A s.heap [] ls ⟨B.exec, B.bytes, hml, B.returns, B.notSynchronized, findClass_of_methodNamed B.named, atoms_spec (ws := zk_ws M) B.pre, hK, hR⟩ ⟨hin, hA, hO⟩ hP hD va_S.rf
    ⟨hl.1, hl.2.1, fun i v h => by
      rw [← hlv] at h
      have h2 := zk_ent_mem α as 0 i v (zk_pad h)
      rw [Nat.zero_add] at h2
      exact hl.2.2 _ h2⟩ ⟨hwf, Nat.le_refl _⟩
theorem zk_BA.blind {D : va_G} {α : Nat → Nat} {κ : Nat → ClassId} {A : Nat → Prop} {cs : List va_E} {av : List Value} : FrameBlind (va_Pc av (zk_BA D α κ A cs)) := fun a U g mk q => by
  obtain ⟨q0, qA, qw, qP, qK, qD, qR, qO⟩ := q
  exact ⟨q0, qA, qw, qP, va_K.moved (u := U) (U := U.calling g mk a) (Vm.Alike.refl U.vm) qK, qD, ⟨fun x hx => va_Nw.same (u := U) rfl rfl (qR.1 x hx), fun j x hx => ⟨(qR.2 j x hx).1.moved (U := U.calling g mk a) (Vm.Alike.refl U.vm), (qR.2 j x hx).2.moved (U := U.calling g mk a) (Vm.Alike.refl U.vm)⟩⟩, fun x hx => va_Nw.same (u := U) rfl rfl (qO.1 x hx), arrayOver_alikeB (U := U.calling g mk a) (Vm.Alike.refl U.vm) qO.2⟩
theorem zk_Acall {d Nc Ns n0 : Nat} {M : zkY} {cs' : List va_E} {cc ss pc : Nat} {lv : List (Option Value)} {st : List Value} {cs : List va_E} (M' : zkY) (k : Nat) {d' Nc' Ns' idx : Nat} {cs1 : List va_E} (hd : decode M.2.1 pc = .ok (.invokespecial idx, 3)) (hL : zk_lk M' 0) (hlk : (M.1.cls, idx, M'.1, "TreePlanks") ∈ zk_nsti ∧ Cond.instanceMethod M'.1 ∈ zk_tb) (hrt : M'.2.2.2 = none) (hnm : M'.1.name = "<init>") (hM : zk_XA d' Nc' Ns' M' [.ref k] cs cs1) (hdd : d' < d) (hcat : (st.map fun v => v.category).sum ≤ 8) (hvb : zk_vbs cs.length lv st = true) (hcc : cc + Nc' ≤ Nc) (hss : ss + Ns' ≤ Ns)
    (kk : zk_A d Nc Ns n0 M cs' (cc + Nc') (ss + Ns') (pc + 3) lv st cs1) : zk_A d Nc Ns n0 M cs' cc ss pc lv (.ref k :: st) cs := by
  intro p l e s m args below meth c D α κ A H locs ls hF hI hP hD hS hl hw
  have hrun := va_runIN (As := []) (b := α k) (rest := st.map (zk_cv α)) (g := F0 m pc ls (.ref (α k) :: st.map (zk_cv α))) (cells := cc) (slots := ss) (H := H) (locs := locs) (below := below) (meth := meth) (l := l) (e := e) (R := zk_roomA d Nc Ns) ⟨hF.1, hF.2.1, hF.2.2.1, hF.2.2.2.2.2.1, hF.2.2.2.2.2.2.1⟩ (hM l D α κ A) ⟨by
      have := va_cnB (R := zk_roomA d Nc Ns) (rm := zk_roomA d' Nc' Ns') (mc := Nc') (ms := Ns') 0 hF.2.2.2.2.2.2.1 (zk_good (M := M) hL.1) rfl rfl rfl (hI.2.2.1 _ hlk.1) (hF.ts hL.2.1) hL.2.2.1 (by show d' + 1 + 1 ≤ d + 1 ∧ 8 + (M'.2.2.1 + 11) + (64 * d' + 64) ≤ 64 * d + 64; have := hL.2.2.2; omega)
      rw [hrt] at this
      exact this, hnm, hF.ts hlk.2⟩ ⟨zk_BA.blind, fun U hU hW => ⟨rfl, fun q hq => hI.2.1 q (by rw [hU] at hq; exact Nat.le_trans hS.1 hq), hw.1, by rw [hU]; exact hP, va_K.moved hW.alike hF.2.2.2.2.2.2.2.1, hD, by rw [hU]; exact hF.2.2.2.2.2.2.2.2.go hS hW, hI.2.2.go hW⟩⟩ rfl rfl hl.1 rfl (lv_room (by rw [zk_cat]; exact hcat)) hd ⟨hcc, hss⟩
  intro T hT X
  obtain ⟨v, st₀, t, T', L, h0, X', hL9, e1, e2, ⟨α2, a1, a2, hv, hP1, hD1, hR1, hK1, hw1, hn1, hz, hk9⟩, stp⟩ := hrun T hT X
  cases hv
  rw [h0] at hz hk9
  have kq := kk p l e s m args below meth c D α2 κ A T'.heap (locs ++ L) ls ⟨hF.1, hF.2.1, hF.2.2.1, hF.2.2.2.1, hF.2.2.2.2.1, hF.2.2.2.2.2.1, hF.2.2.2.2.2.2.1, hF.2.2.2.2.2.2.2.1, hF.2.2.2.2.2.2.2.2.al a2⟩ hI (by rw [e1]; exact hP1) hD1
    ⟨Nat.le_trans hS.1 (by rw [e1]; exact hz), fun q h1 h2 => by rw [e1, hk9 q (Nat.lt_of_lt_of_le h1 hS.1) h2]; exact hS.2.1 q h1 h2, fun q hq => by
      rcases List.mem_append.mp hq with h | h
      · exact hS.2.2 q h
      · exact hL9 q h⟩ (zk_vbs_lv a1 hvb hl) ⟨hw1, Nat.le_trans hw.2 hn1⟩
  rw [zk_vbs_st a1 hvb] at kq
  obtain ⟨t2, b1, b2⟩ := zk_W_mono (fun a s o t h => zk_ZA.al hw.2 a1 a2 h) kq T' rfl X'
  exact ⟨t2, stp t2 b1, b2⟩
