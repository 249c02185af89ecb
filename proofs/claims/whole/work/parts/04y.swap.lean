/-! tree() lets grown and spare change places: the same cells under other names -/
def zk_T (r : Option Value × zkM) : zkZ := fun D α κ A a st oc t => zk_Q zSX D α κ A r a st oc t ∨ zk_Q zSX D (fun k => α (zk_pi k)) κ A r a st oc t
def zk_Xt (d : Nat) (M : zkY) (as : List Value) (mem : zkM) (r : Option Value × zkM) : Prop :=
  ∀ (l : Launch) (D : va_G) (α : Nat → Nat) (κ : Nat → ClassId) (A : Nat → Prop), Met l M.1 (zk_ws M) (zk_room d) (va_Pc (as.map (zk_cv α)) (zk_B zSX D α κ A mem)) (zk_T r D α κ A) 0 0 A
theorem zk_W_mono {p : Program} {l : Launch} {e : Env} {R : Room} {s : State} {m : MethodId} {args : Array Value} {below : List Frame} {meth : Method} {c : Code} {H : Heap} {locs : List Loc} {cells slots mc ms : Nat} {Q Q' : Array Value → State → Outcome → State → Prop} {A : Addr → Prop} {g : JFrame} (hQ : ∀ a s o t, Q a s o t → Q' a s o t)
    (k : W p l e R s m args below meth c H locs cells slots (MQ below Q args s mc ms A) g) : W p l e R s m args below meth c H locs cells slots (MQ below Q' args s mc ms A) g := by
  intro T hT X
  obtain ⟨t, a1, o, b1, b2, b3, b4⟩ := k T hT X
  exact ⟨t, a1, o, b1, b2, hQ _ _ _ _ b3, b4⟩
theorem zk_Tl {d : Nat} {M : zkY} {r : Option Value × zkM} {pc : Nat} {lv : List (Option Value)} {st : List Value} {mem : zkM} (k : zk_J zSX d M (zk_R zSX r) pc lv st mem) : zk_J zSX d M (zk_T r) pc lv st mem := by
  intro p l e s m args below meth c D α κ A H locs ls hF hP hD hS hl
  exact zk_W_mono (fun a s o t h => Or.inl h) (k p l e s m args below meth c D α κ A H locs ls hF hP hD hS hl)
theorem zk_meetT {d : Nat} {M : zkY} {as : List Value} {mem : zkM} {r : Option Value × zkM} {n : Nat} {lv : List (Option Value)} (hy : plainName M.1.cls = true) (hlv : zk_ent as ++ List.replicate n none = lv) (hz : (as.map fun v => v.category).sum ≤ M.2.2.1)
    (k : zk_J zSX d M (zk_T r) 0 lv [] mem) : zk_Xt d M as mem r := by
  intro l D α κ A
  refine Met.ofW (cc := M.2.1) (maxL := M.2.2.1) (ret := M.2.2.2) hy rfl ?_
  intro p e s m args below meth c s₁ B hml hv
  obtain ⟨rfl, hP, hK, hD, hR⟩ := hv
  have hlen : (lg_sl (as.map (zk_cv α))).length ≤ M.2.2.1 := by
    have : ∀ xs : List Value, (lg_sl xs).length = (xs.map fun v => v.category).sum := by
      intro xs
      induction xs with
      | nil => rfl
      | cons x xs ih =>
        unfold lg_sl at ih ⊢
        rw [List.flatMap_cons, List.length_append, ih, List.map_cons, List.sum_cons]
        cases x <;> rfl
    rw [this, zk_cat]
    exact hz
  have hl := lv_entry (as.map (zk_cv α)) (n := M.2.2.1) hlen
  rw [lg_entry_eq]
  generalize (lg_sl (as.map (zk_cv α)) ++ List.replicate (M.2.2.1 - (lg_sl (as.map (zk_cv α))).length) Slot.unset).toArray = ls at hl ⊢
  exact k p l e s m _ below meth c D α κ A s.heap [] ls ⟨B.exec, B.bytes, hml, B.returns, B.notSynchronized, findClass_of_methodNamed B.named, atoms_spec (ws := zk_ws M) B.pre, hK, hR⟩ hP hD va_S.rf
    ⟨hl.1, hl.2.1, fun i v h => by
      rw [← hlv] at h
      have h2 := zk_ent_mem α as 0 i v (zk_pad h)
      rw [Nat.zero_add] at h2
      exact hl.2.2 _ h2⟩
theorem zk_pi_hi (j : Nat) : zk_pi (1000 + j) = 1000 + j := by unfold zk_pi; rw [if_neg (by omega), if_neg (by omega)]
theorem zk_pi_pi (k : Nat) : zk_pi (zk_pi k) = k := by
  unfold zk_pi
  repeat' split
  all_goals omega
theorem zk_pi_lt {k : Nat} (h : k < 64) : zk_pi k < 64 := by
  unfold zk_pi
  repeat' split
  all_goals omega
/-- but for the object itself, a cell's picture under the other names is the other cell's -/
theorem zk_cell_pi (α : Nat → Nat) (κ : Nat → ClassId) (mem : zkM) : ∀ k, k < 64 → k ≠ 0 → zk_cell zSX (fun k => α (zk_pi k)) κ (zk_swap mem) k = zk_cell zSX α κ mem (zk_pi k) := by
  intro k hk h0
  match k, hk, h0 with
    | 0, _, h0 => exact absurd rfl h0
    | 10, _, _ =>
      show Sum.inl _ = Sum.inl _
      refine congrArg Sum.inl (congrArg (Prod.mk (κ 3)) (congrArg (Prod.mk 10) (congrArg Sum.inr (congrArg Sum.inr (congrArg Sum.inr (congrArg Sum.inr ?_))))))
      funext i
      by_cases hi : i < 10
      · rw [if_pos hi, if_pos hi]
        have : zk_pi (zSX.2.2 10 i) = zSX.2.2 (zk_pi 10) i := (by decide : ∀ i, i < 10 → zk_pi (zSX.2.2 10 i) = zSX.2.2 (zk_pi 10) i) i hi
        exact congrArg (fun z => some (α z)) this
      · rw [if_neg hi, if_neg hi]
    | 22, _, _ =>
      show Sum.inl _ = Sum.inl _
      refine congrArg Sum.inl (congrArg (Prod.mk (κ 3)) (congrArg (Prod.mk 2) (congrArg Sum.inr (congrArg Sum.inr (congrArg Sum.inr (congrArg Sum.inr ?_))))))
      funext i
      by_cases hi : i < 2
      · rw [if_pos hi, if_pos hi]
        have : zk_pi (zSX.2.2 22 i) = zSX.2.2 (zk_pi 22) i := (by decide : ∀ i, i < 2 → zk_pi (zSX.2.2 22 i) = zSX.2.2 (zk_pi 22) i) i hi
        exact congrArg (fun z => some (α z)) this
      · rw [if_neg hi, if_neg hi]
    | 1, _, _ => exact rfl
    | 2, _, _ => exact rfl
    | 3, _, _ => exact rfl
    | 4, _, _ => exact rfl
    | 5, _, _ => exact rfl
    | 6, _, _ => exact rfl
    | 7, _, _ => exact rfl
    | 8, _, _ => exact rfl
    | 9, _, _ => exact rfl
    | 11, _, _ => exact rfl
    | 12, _, _ => exact rfl
    | 13, _, _ => exact rfl
    | 14, _, _ => exact rfl
    | 15, _, _ => exact rfl
    | 16, _, _ => exact rfl
    | 17, _, _ => exact rfl
    | 18, _, _ => exact rfl
    | 19, _, _ => exact rfl
    | 20, _, _ => exact rfl
    | 21, _, _ => exact rfl
    | 23, _, _ => exact rfl
    | 24, _, _ => exact rfl
    | 25, _, _ => exact rfl
    | 26, _, _ => exact rfl
    | 27, _, _ => exact rfl
    | 28, _, _ => exact rfl
    | 29, _, _ => exact rfl
    | 30, _, _ => exact rfl
    | 31, _, _ => exact rfl
    | 32, _, _ => exact rfl
    | 33, _, _ => exact rfl
    | 34, _, _ => exact rfl
    | 35, _, _ => exact rfl
    | 36, _, _ => exact rfl
    | 37, _, _ => exact rfl
    | 38, _, _ => exact rfl
    | 39, _, _ => exact rfl
    | 40, _, _ => exact rfl
    | 41, _, _ => exact rfl
    | 42, _, _ => exact rfl
    | 43, _, _ => exact rfl
    | 44, _, _ => exact rfl
    | 45, _, _ => exact rfl
    | 46, _, _ => exact rfl
    | 47, _, _ => exact rfl
    | 48, _, _ => exact rfl
    | 49, _, _ => exact rfl
    | 50, _, _ => exact rfl
    | 51, _, _ => exact rfl
    | 52, _, _ => exact rfl
    | 53, _, _ => exact rfl
    | 54, _, _ => exact rfl
    | 55, _, _ => exact rfl
    | 56, _, _ => exact rfl
    | 57, _, _ => exact rfl
    | 58, _, _ => exact rfl
    | 59, _, _ => exact rfl
    | 60, _, _ => exact rfl
    | 61, _, _ => exact rfl
    | 62, _, _ => exact rfl
    | 63, _, _ => exact rfl
    | k + 64, hk, _ => omega
def zk_c0 (α : Nat → Nat) (mem : zkM) : List Value := (List.range (zk_nf 11)).map (zk_fv zSX α mem 0 11)
theorem zk_cell_0 (α : Nat → Nat) (κ : Nat → ClassId) (mem : zkM) : zk_cell zSX (fun k => α (zk_pi k)) κ (zk_swap mem) 0 = .inr (11, ((zk_c0 α mem).set 10 (.ref (α 55))).set 11 (.ref (α 46))) := rfl
theorem zk_w_pi (α : Nat → Nat) (κ : Nat → ClassId) (mem : zkM) {k : Nat} (h : k < 64) : (zk_w zSX (fun k => α (zk_pi k)) κ (zk_swap mem))[k]? = (((zk_w zSX α κ mem).set 0 (α 0, .inr (11, (zk_c0 α mem).set 10 (.ref (α 55))))).set 0 (α 0, .inr (11, ((zk_c0 α mem).set 10 (.ref (α 55))).set 11 (.ref (α 46)))))[zk_pi k]? := by
  rw [zk_w_get (S := zSX) h, List.getElem?_set, List.getElem?_set]
  by_cases h0 : k = 0
  · subst h0
    rw [zk_cell_0]
    rfl
  · have hp : ¬ 0 = zk_pi k := by
      intro e
      have := zk_pi_pi k
      rw [← e] at this
      exact h0 this.symm
    rw [if_neg hp, if_neg hp, zk_w_get (S := zSX) (zk_pi_lt h), zk_cell_pi α κ mem k h h0]
theorem zpr_82 : zk_fp RX11 82 11 10 := ⟨RX11, TX11, 13, zk_ok11, by decide, zk_ix 345 (by decide +kernel) rfl, rfl⟩
theorem zpr_86 : zk_fp RX11 86 11 11 := ⟨RX11, TX11, 13, zk_ok11, by decide, zk_ix 346 (by decide +kernel) rfl, rfl⟩
set_option maxRecDepth 100000 in
theorem zk_swap36 {d : Nat} {r : Option Value × zkM} {x : Int32} {mem mem' : zkM} (he : zk_swap mem = mem') (k : zk_J zSX d zY_X11_tree (zk_R zSX r) 36 [some (.ref 0), some (.int x), none] [] mem') : zk_J zSX d zY_X11_tree (zk_T r) 23 [some (.ref 0), some (.int x), some (.ref 46)] [] mem := by
  subst he
  intro p l e s m args below meth c D α κ A H locs ls hF hP hD hS hl
  have h0 : ls[0]? = some (.val (.ref (α 0))) := hl.2.2 0 _ rfl
  have h2 : ls[2]? = some (.val (.ref (α 46))) := hl.2.2 2 _ rfl
  have hg0 : (zk_w zSX α κ mem)[0]? = some (α 0, .inr (11, zk_c0 α mem)) := by rw [zk_w_get (S := zSX) (by decide), zk_cell_obj (S := zSX) (ci := 11) rfl]; rfl
  refine lv_aload_n hF.1 hF.2.1 dX11_tree_23 rfl h0 ?_
  refine lv_aload_n hF.1 hF.2.1 dX11_tree_24 rfl h0 ?_
  obtain ⟨C, T, N, ⟨o1, o2, o3, o4, o5⟩, hfN, hlk⟩ := zf_X11_86
  refine va_get hF.1 hF.2.1 hF.2.2.2.2.2.2.1 (fun w h => List.mem_cons_of_mem _ (o3 w h)) hF.2.2.2.2.2.1 hF.2.2.2.2.2.2.2.1 hP 0 hg0 o1 11 hfN (hF.ts hlk) (fun _ h => h) (v := .ref (α 55)) rfl dX11_tree_25 ?_
  clear o1 o2 o3 o4 o5 hfN hlk
  obtain ⟨C1, T1, N1, ⟨o1, o2, o3, o4, o5⟩, hfN, hlk, hfin⟩ := zpr_82
  refine va_put hF.1 hF.2.1 hF.2.2.2.2.2.2.1 (fun w h => List.mem_cons_of_mem _ (o3 w h)) (zk_ty 11) o4 o5 hF.2.2.2.2.2.1 hF.2.2.2.2.2.2.2.1 hP hD hS 0 hg0 o1 10 hfN (hF.ts hlk) (fun _ h => h) hfin (v := .ref (α 55)) (o4 10 hfN) rfl rfl (Nat.le_of_ble_eq_true rfl) dX11_tree_28 (fun H1 locs1 hP1 hD1 hS1 => ?_)
  clear o1 o2 o3 o4 o5 hfN hlk hfin
  refine lv_aload_n hF.1 hF.2.1 dX11_tree_31 rfl h0 ?_
  refine lv_aload_n hF.1 hF.2.1 dX11_tree_32 rfl h2 ?_
  obtain ⟨C2, T2, N2, ⟨o1, o2, o3, o4, o5⟩, hfN, hlk, hfin⟩ := zpr_86
  refine va_put hF.1 hF.2.1 hF.2.2.2.2.2.2.1 (fun w h => List.mem_cons_of_mem _ (o3 w h)) (zk_ty 11) o4 o5 hF.2.2.2.2.2.1 hF.2.2.2.2.2.2.2.1 hP1 hD1 hS1 0 (fs := (zk_c0 α mem).set 10 (.ref (α 55))) (by rw [List.getElem?_set_self (by have := (List.getElem?_eq_some_iff.mp hg0).1; exact this)]) o1 11 hfN (hF.ts hlk) (fun _ h => h) hfin (v := .ref (α 46)) (o4 11 hfN) rfl rfl (Nat.le_of_ble_eq_true rfl) dX11_tree_33 (fun H2 locs2 hP2 hD2 hS2 => ?_)
  have hlen : ∀ k x, (zk_w zSX (fun k => α (zk_pi k)) κ (zk_swap mem))[k]? = some x → k < 64 := fun k x h => by
    have := (List.getElem?_eq_some_iff.mp h).1
    unfold zk_w at this
    rw [List.length_map, List.length_range] at this
    exact this
  have hP3 : va_P D vwCl (zk_w zSX (fun k => α (zk_pi k)) κ (zk_swap mem)) H2 := fun k x h => by
    rw [zk_w_pi α κ mem (hlen k x h)] at h
    exact hP2 _ _ h
  have hD3 : va_D A (zk_w zSX (fun k => α (zk_pi k)) κ (zk_swap mem)) := by
    refine ⟨fun i j x y hi hj hxy => ?_, fun k x h => ?_⟩
    · rw [zk_w_pi α κ mem (hlen i x hi)] at hi
      rw [zk_w_pi α κ mem (hlen j y hj)] at hj
      have := hD2.1 _ _ x y hi hj hxy
      have h2 := congrArg zk_pi this
      rwa [zk_pi_pi, zk_pi_pi] at h2
    · rw [zk_w_pi α κ mem (hlen k x h)] at h
      exact hD2.2 _ _ h
  have hF3 : zk_F zY_X11_tree p s m args meth c D (fun k => α (zk_pi k)) κ A := ⟨hF.1, hF.2.1, hF.2.2.1, hF.2.2.2.1, hF.2.2.2.2.1, hF.2.2.2.2.2.1, hF.2.2.2.2.2.2.1, hF.2.2.2.2.2.2.2.1, hF.2.2.2.2.2.2.2.2.1, fun j q hq => by
    have := hF.2.2.2.2.2.2.2.2.2 j q hq
    rw [← zk_pi_hi j] at this
    exact this⟩
  refine zk_W_mono (fun a s o t h => Or.inr h) (k p l e s m args below meth c D (fun k => α (zk_pi k)) κ A H2 locs2 ls hF3 hP3 hD3 hS2 ⟨hl.1, hl.2.1, fun i v h => ?_⟩)
  match i, h with
  | 0, h => cases h; exact h0
  | 1, h => cases h; exact hl.2.2 1 _ rfl
  | 2, h => simp at h
  | i + 3, h => simp at h
