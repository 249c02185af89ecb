def zk_ok (ci : Nat) (C : String) (T : u_T) (N : Nat) : Prop := vwCl[ci]? = some (C, T, N) ∧ zk_nf ci = N ∧ (∀ w ∈ u_ws C T N, w ∈ zk_tb) ∧ (∀ k, k < N → parseFieldDescriptor (T k).2.2.1 = some (zk_ty ci k)) ∧ (∀ a, a < N → ∀ b, b < N → a ≠ b → (T a).2.1 ≠ (T b).2.1)
theorem zk_ok0 : zk_ok 0 RX0 TX0 2 := ⟨rfl, rfl, fun w h => zk_in (inX0 w h) ((by decide +kernel : ∀ w ∈ u_ws RX0 TX0 2, goodWord w = true) w h), tyX0_ok, nmX0⟩
theorem zk_ok1 : zk_ok 1 RX1 TX1 2 := ⟨rfl, rfl, fun w h => zk_in (inX1 w h) ((by decide +kernel : ∀ w ∈ u_ws RX1 TX1 2, goodWord w = true) w h), tyX1_ok, nmX1⟩
theorem zk_ok2 : zk_ok 2 RX2 TX2 2 := ⟨rfl, rfl, fun w h => zk_in (inX2 w h) ((by decide +kernel : ∀ w ∈ u_ws RX2 TX2 2, goodWord w = true) w h), tyX2_ok, nmX2⟩
theorem zk_ok3 : zk_ok 3 RX3 TX3 1 := ⟨rfl, rfl, fun w h => zk_in (inX3 w h) ((by decide +kernel : ∀ w ∈ u_ws RX3 TX3 1, goodWord w = true) w h), tyX3_ok, nmX3⟩
theorem zk_ok4 : zk_ok 4 RX4 TX4 1 := ⟨rfl, rfl, fun w h => zk_in (inX4 w h) ((by decide +kernel : ∀ w ∈ u_ws RX4 TX4 1, goodWord w = true) w h), tyX4_ok, nmX4⟩
theorem zk_ok5 : zk_ok 5 RX5 TX5 3 := ⟨rfl, rfl, fun w h => zk_in (inX5 w h) ((by decide +kernel : ∀ w ∈ u_ws RX5 TX5 3, goodWord w = true) w h), tyX5_ok, nmX5⟩
theorem zk_ok6 : zk_ok 6 RX6 TX6 6 := ⟨rfl, rfl, fun w h => zk_in (inX6 w h) ((by decide +kernel : ∀ w ∈ u_ws RX6 TX6 6, goodWord w = true) w h), tyX6_ok, nmX6⟩
theorem zk_ok7 : zk_ok 7 RX7 TX7 6 := ⟨rfl, rfl, fun w h => zk_in (inX7 w h) ((by decide +kernel : ∀ w ∈ u_ws RX7 TX7 6, goodWord w = true) w h), tyX7_ok, nmX7⟩
theorem zk_ok8 : zk_ok 8 RX8 TX8 1 := ⟨rfl, rfl, fun w h => zk_in (inX8 w h) ((by decide +kernel : ∀ w ∈ u_ws RX8 TX8 1, goodWord w = true) w h), tyX8_ok, nmX8⟩
theorem zk_ok9 : zk_ok 9 RX9 TX9 7 := ⟨rfl, rfl, fun w h => zk_in (inX9 w h) ((by decide +kernel : ∀ w ∈ u_ws RX9 TX9 7, goodWord w = true) w h), tyX9_ok, nmX9⟩
theorem zk_ok10 : zk_ok 10 RX10 TX10 11 := ⟨rfl, rfl, fun w h => zk_in (inX10 w h) ((by decide +kernel : ∀ w ∈ u_ws RX10 TX10 11, goodWord w = true) w h), tyX10_ok, nmX10⟩
theorem zk_ok11 : zk_ok 11 RX11 TX11 13 := ⟨rfl, rfl, fun w h => zk_in (inX11 w h) ((by decide +kernel : ∀ w ∈ u_ws RX11 TX11 13, goodWord w = true) w h), tyX11_ok, nmX11⟩
theorem zk_ok12 : zk_ok 12 RX12 TX12 34 := ⟨rfl, rfl, fun w h => zk_in (inX12 w h) ((by decide +kernel : ∀ w ∈ u_ws RX12 TX12 34, goodWord w = true) w h), tyX12_ok, nmX12⟩
/-- a field's link: the pool's entry idx of the class own is field f of kind ci -/
def zk_fl (own : String) (idx ci f : Nat) : Prop := ∃ C T N, zk_ok ci C T N ∧ f < N ∧ Cond.fieldLink own idx (T f).1 (T f).2.1 (T f).2.2.1 ∈ zk_tb
def zk_fp (own : String) (idx ci f : Nat) : Prop := ∃ C T N, zk_ok ci C T N ∧ f < N ∧ Cond.fieldLink own idx (T f).1 (T f).2.1 (T f).2.2.1 ∈ zk_tb ∧ (T f).2.2.2 = false
theorem zk_fs {n f : Nat} {g : Nat → Value} (h : f < n) : ((List.range n).map g)[f]? = some (g f) := by
  rw [List.getElem?_map, List.getElem?_range h]
  rfl
theorem zk_fs_set {n f : Nat} {g g' : Nat → Value} {v : Value} (hv : g' f = v) (ho : ∀ j, j ≠ f → g' j = g j) : ((List.range n).map g).set f v = (List.range n).map g' := by
  subst hv
  apply List.ext_getElem?
  intro j
  rw [List.getElem?_set]
  by_cases h : f = j
  · subst h
    by_cases hl : f < n
    · simp [hl]
    · simp [hl]
  · rw [if_neg h, List.getElem?_map, List.getElem?_map]
    by_cases hl : j < n
    · rw [List.getElem?_range hl]
      simp [ho j (fun q => h q.symm)]
    · rw [List.getElem?_eq_none (by simpa using hl)]
      rfl
theorem zk_put_obj {S : zkS} {α : Nat → Nat} {κ : Nat → ClassId} {mem mem' : zkM} {k ci f : Nat} {v : Value} (hly : S.2.1 k = some (.inr ci)) (h1 : ∀ j, j ≠ k → mem'.1 j = mem.1 j) (h2 : ∀ j, j ≠ k → mem'.2 j = mem.2 j) (h3 : ∀ j, j ≠ f → mem'.1 k j = mem.1 k j) (h4 : ∀ j, j ≠ f → mem'.2 k j = mem.2 k j) (hv : zk_fv S α mem' k ci f = v) :
    (zk_w S α κ mem).set k (α k, .inr (ci, ((List.range (zk_nf ci)).map (zk_fv S α mem k ci)).set f v)) = zk_w S α κ mem' := by
  refine zk_w_set ?_ (fun j hj => zk_cell_congr (h1 j hj) (h2 j hj))
  rw [zk_cell_obj hly, zk_fs_set hv]
  intro j hj
  unfold zk_fv
  rw [h3 j hj, h4 j hj]
theorem zk_put_arr {S : zkS} {α : Nat → Nat} {κ : Nat → ClassId} {mem mem' : zkM} {k n q : Nat} {x : va_E} (hly : S.2.1 k = some (.inl (n, q))) (h1 : ∀ j, j ≠ k → mem'.1 j = mem.1 j) (h2 : ∀ j, j ≠ k → mem'.2 j = mem.2 j) (hx : zk_arr S α κ mem' k n q = x) : (zk_w S α κ mem).set k (α k, x) = zk_w S α κ mem' :=
  zk_w_set ((zk_cell_arr hly).trans hx) (fun j hj => zk_cell_congr (h1 j hj) (h2 j hj))
theorem zk_F.ts {M : zkY} {p : Program} {s : State} {m : MethodId} {args : Array Value} {meth : Method} {c : Code} {D : va_G} {α : Nat → Nat} {κ : Nat → ClassId} {A : Nat → Prop} (hF : zk_F M p s m args meth c D α κ A) {w : Cond} (h : w ∈ zk_tb) : w.before args s = true := hF.2.2.2.2.2.2.1 w (List.mem_cons_of_mem _ h)

theorem zk_getI {S : zkS} {d : Nat} {M : zkY} {Z : zkZ} {pc : Nat} {lv : List (Option Value)} {st : List Value} {mem : zkM} (k ci f : Nat) {idx : Nat} (hd : decode M.2.1 pc = .ok (.getfield idx, 3)) (hf : zk_fl M.1.cls idx ci f) (hk : k < S.1) (hly : S.2.1 k = some (.inr ci)) (ht : zk_ty ci f = .int) (kk : zk_J S d M Z (pc + 3) lv (.int (mem.1 k f) :: st) mem) : zk_J S d M Z pc lv (.ref k :: st) mem := by
  intro p l e s m args below meth c D α κ A H locs ls hF hP hD hS hl
  obtain ⟨C, T, N, ⟨o1, o2, o3, o4, o5⟩, hfN, hlk⟩ := hf
  exact va_get hF.1 hF.2.1 hF.2.2.2.2.2.2.1 (fun w h => List.mem_cons_of_mem _ (o3 w h)) hF.2.2.2.2.2.1 hF.2.2.2.2.2.2.2.1 hP k (by rw [zk_w_get hk, zk_cell_obj hly]) o1 f hfN (hF.ts hlk) (fun _ h => h) (by rw [zk_fs (by rw [o2]; exact hfN)]; unfold zk_fv; rw [ht]; rfl) hd (kk p l e s m args below meth c D α κ A H locs ls hF hP hD hS hl)
theorem zk_getZ {S : zkS} {d : Nat} {M : zkY} {Z : zkZ} {pc : Nat} {lv : List (Option Value)} {st : List Value} {mem : zkM} (k ci f : Nat) {idx : Nat} (hd : decode M.2.1 pc = .ok (.getfield idx, 3)) (hf : zk_fl M.1.cls idx ci f) (hk : k < S.1) (hly : S.2.1 k = some (.inr ci)) (ht : zk_ty ci f = .boolean) (kk : zk_J S d M Z (pc + 3) lv (.int (mem.1 k f) :: st) mem) : zk_J S d M Z pc lv (.ref k :: st) mem := by
  intro p l e s m args below meth c D α κ A H locs ls hF hP hD hS hl
  obtain ⟨C, T, N, ⟨o1, o2, o3, o4, o5⟩, hfN, hlk⟩ := hf
  exact va_get hF.1 hF.2.1 hF.2.2.2.2.2.2.1 (fun w h => List.mem_cons_of_mem _ (o3 w h)) hF.2.2.2.2.2.1 hF.2.2.2.2.2.2.2.1 hP k (by rw [zk_w_get hk, zk_cell_obj hly]) o1 f hfN (hF.ts hlk) (fun _ h => h) (by rw [zk_fs (by rw [o2]; exact hfN)]; unfold zk_fv; rw [ht]; rfl) hd (kk p l e s m args below meth c D α κ A H locs ls hF hP hD hS hl)
theorem zk_getL {S : zkS} {d : Nat} {M : zkY} {Z : zkZ} {pc : Nat} {lv : List (Option Value)} {st : List Value} {mem : zkM} (k ci f : Nat) {idx : Nat} (hd : decode M.2.1 pc = .ok (.getfield idx, 3)) (hf : zk_fl M.1.cls idx ci f) (hk : k < S.1) (hly : S.2.1 k = some (.inr ci)) (ht : zk_ty ci f = .long) (kk : zk_J S d M Z (pc + 3) lv (.long (mem.2 k f) :: st) mem) : zk_J S d M Z pc lv (.ref k :: st) mem := by
  intro p l e s m args below meth c D α κ A H locs ls hF hP hD hS hl
  obtain ⟨C, T, N, ⟨o1, o2, o3, o4, o5⟩, hfN, hlk⟩ := hf
  exact va_get hF.1 hF.2.1 hF.2.2.2.2.2.2.1 (fun w h => List.mem_cons_of_mem _ (o3 w h)) hF.2.2.2.2.2.1 hF.2.2.2.2.2.2.2.1 hP k (by rw [zk_w_get hk, zk_cell_obj hly]) o1 f hfN (hF.ts hlk) (fun _ h => h) (by rw [zk_fs (by rw [o2]; exact hfN)]; unfold zk_fv; rw [ht]; rfl) hd (kk p l e s m args below meth c D α κ A H locs ls hF hP hD hS hl)
theorem zk_getR {S : zkS} {d : Nat} {M : zkY} {Z : zkZ} {pc : Nat} {lv : List (Option Value)} {st : List Value} {mem : zkM} (k ci f : Nat) {idx : Nat} (hd : decode M.2.1 pc = .ok (.getfield idx, 3)) (hf : zk_fl M.1.cls idx ci f) (hk : k < S.1) (hly : S.2.1 k = some (.inr ci)) (ht : (match zk_ty ci f with | .int => false | .boolean => false | .long => false | _ => true) = true) (kk : zk_J S d M Z (pc + 3) lv (.ref (S.2.2 k f) :: st) mem) : zk_J S d M Z pc lv (.ref k :: st) mem := by
  intro p l e s m args below meth c D α κ A H locs ls hF hP hD hS hl
  obtain ⟨C, T, N, ⟨o1, o2, o3, o4, o5⟩, hfN, hlk⟩ := hf
  exact va_get hF.1 hF.2.1 hF.2.2.2.2.2.2.1 (fun w h => List.mem_cons_of_mem _ (o3 w h)) hF.2.2.2.2.2.1 hF.2.2.2.2.2.2.2.1 hP k (by rw [zk_w_get hk, zk_cell_obj hly]) o1 f hfN (hF.ts hlk) (fun _ h => h) (v := .ref (α (S.2.2 k f))) (by rw [zk_fs (by rw [o2]; exact hfN)]; unfold zk_fv; split <;> simp_all) hd (kk p l e s m args below meth c D α κ A H locs ls hF hP hD hS hl)
theorem zk_putI {S : zkS} {d : Nat} {M : zkY} {Z : zkZ} {pc : Nat} {lv : List (Option Value)} {st : List Value} {mem : zkM} (k ci f : Nat) {idx : Nat} {x : Int32} (hd : decode M.2.1 pc = .ok (.putfield idx, 3)) (hf : zk_fp M.1.cls idx ci f) (hk : k < S.1) (hly : S.2.1 k = some (.inr ci)) (ht : zk_ty ci f = .int) (kk : zk_J S d M Z (pc + 3) lv st (zk_u mem k f x)) : zk_J S d M Z pc lv (.int x :: .ref k :: st) mem := by
  intro p l e s m args below meth c D α κ A H locs ls hF hP hD hS hl
  obtain ⟨C, T, N, ⟨o1, o2, o3, o4, o5⟩, hfN, hlk, hfin⟩ := hf
  have ho := o4 f hfN
  rw [ht] at ho
  refine va_put hF.1 hF.2.1 hF.2.2.2.2.2.2.1 (fun w h => List.mem_cons_of_mem _ (o3 w h)) (zk_ty ci) o4 o5 hF.2.2.2.2.2.1 hF.2.2.2.2.2.2.2.1 hP hD hS k (by rw [zk_w_get hk, zk_cell_obj hly]) o1 f hfN (hF.ts hlk) (fun _ h => h) hfin (v := .int x) ho rfl rfl (by rw [List.length_map, List.length_range, o2]; exact hfN) hd (fun H1 locs1 hP1 hD1 hS1 => ?_)
  have he := zk_put_obj (S := S) (α := α) (κ := κ) (mem := mem) (mem' := zk_u mem k f x) (f := f) (v := .int x) hly (fun j hj => zk_u_off hj) (fun j hj => rfl) (fun j hj => by simp [zk_u, hj]) (fun j hj => by simp [zk_u, hj]) (by unfold zk_fv; rw [ht]; simp [zk_u])
  rw [he] at hP1 hD1
  exact kk p l e s m args below meth c D α κ A H1 locs1 ls hF hP1 hD1 hS1 hl
theorem zk_putZ {S : zkS} {d : Nat} {M : zkY} {Z : zkZ} {pc : Nat} {lv : List (Option Value)} {st : List Value} {mem : zkM} (k ci f : Nat) {idx : Nat} {x : Int32} (hd : decode M.2.1 pc = .ok (.putfield idx, 3)) (hf : zk_fp M.1.cls idx ci f) (hk : k < S.1) (hly : S.2.1 k = some (.inr ci)) (ht : zk_ty ci f = .boolean) (hn : narrow .boolean (.int x) = .int x) (hb : fits .boolean (.int x) = true) (kk : zk_J S d M Z (pc + 3) lv st (zk_u mem k f x)) : zk_J S d M Z pc lv (.int x :: .ref k :: st) mem := by
  intro p l e s m args below meth c D α κ A H locs ls hF hP hD hS hl
  obtain ⟨C, T, N, ⟨o1, o2, o3, o4, o5⟩, hfN, hlk, hfin⟩ := hf
  have ho := o4 f hfN
  rw [ht] at ho
  refine va_put hF.1 hF.2.1 hF.2.2.2.2.2.2.1 (fun w h => List.mem_cons_of_mem _ (o3 w h)) (zk_ty ci) o4 o5 hF.2.2.2.2.2.1 hF.2.2.2.2.2.2.2.1 hP hD hS k (by rw [zk_w_get hk, zk_cell_obj hly]) o1 f hfN (hF.ts hlk) (fun _ h => h) hfin (v := .int x) ho hn hb (by rw [List.length_map, List.length_range, o2]; exact hfN) hd (fun H1 locs1 hP1 hD1 hS1 => ?_)
  have he := zk_put_obj (S := S) (α := α) (κ := κ) (mem := mem) (mem' := zk_u mem k f x) (f := f) (v := .int x) hly (fun j hj => zk_u_off hj) (fun j hj => rfl) (fun j hj => by simp [zk_u, hj]) (fun j hj => by simp [zk_u, hj]) (by unfold zk_fv; rw [ht]; simp [zk_u])
  rw [he] at hP1 hD1
  exact kk p l e s m args below meth c D α κ A H1 locs1 ls hF hP1 hD1 hS1 hl
theorem zk_putL {S : zkS} {d : Nat} {M : zkY} {Z : zkZ} {pc : Nat} {lv : List (Option Value)} {st : List Value} {mem : zkM} (k ci f : Nat) {idx : Nat} {x : Int64} (hd : decode M.2.1 pc = .ok (.putfield idx, 3)) (hf : zk_fp M.1.cls idx ci f) (hk : k < S.1) (hly : S.2.1 k = some (.inr ci)) (ht : zk_ty ci f = .long) (kk : zk_J S d M Z (pc + 3) lv st (zk_ul mem k f x)) : zk_J S d M Z pc lv (.long x :: .ref k :: st) mem := by
  intro p l e s m args below meth c D α κ A H locs ls hF hP hD hS hl
  obtain ⟨C, T, N, ⟨o1, o2, o3, o4, o5⟩, hfN, hlk, hfin⟩ := hf
  have ho := o4 f hfN
  rw [ht] at ho
  refine va_put hF.1 hF.2.1 hF.2.2.2.2.2.2.1 (fun w h => List.mem_cons_of_mem _ (o3 w h)) (zk_ty ci) o4 o5 hF.2.2.2.2.2.1 hF.2.2.2.2.2.2.2.1 hP hD hS k (by rw [zk_w_get hk, zk_cell_obj hly]) o1 f hfN (hF.ts hlk) (fun _ h => h) hfin (v := .long x) ho rfl rfl (by rw [List.length_map, List.length_range, o2]; exact hfN) hd (fun H1 locs1 hP1 hD1 hS1 => ?_)
  have he := zk_put_obj (S := S) (α := α) (κ := κ) (mem := mem) (mem' := zk_ul mem k f x) (f := f) (v := .long x) hly (fun j hj => rfl) (fun j hj => zk_ul_off hj) (fun j hj => by simp [zk_ul, hj]) (fun j hj => by simp [zk_ul, hj]) (by unfold zk_fv; rw [ht]; simp [zk_ul])
  rw [he] at hP1 hD1
  exact kk p l e s m args below meth c D α κ A H1 locs1 ls hF hP1 hD1 hS1 hl
/-! arrays -/
theorem zk_iaload {S : zkS} {d : Nat} {M : zkY} {Z : zkZ} {pc : Nat} {lv : List (Option Value)} {st : List Value} {mem : zkM} (k n : Nat) {i : Int32} (hd : decode M.2.1 pc = .ok (.iaload, 1)) (hk : k < S.1) (hly : S.2.1 k = some (.inl (n, 0))) (hin : vp_in i n) (kk : zk_J S d M Z (pc + 1) lv (.int (mem.1 k i.toNatClampNeg) :: st) mem) : zk_J S d M Z pc lv (.int i :: .ref k :: st) mem := by
  intro p l e s m args below meth c D α κ A H locs ls hF hP hD hS hl
  exact va_iald hF.1 hF.2.1 hF.2.2.2.2.2.2.2.1 hP k 0 (by rw [zk_w_get hk, zk_cell_arr hly]; rfl) rfl hin hd (kk p l e s m args below meth c D α κ A H locs ls hF hP hD hS hl)
theorem zk_zaload {S : zkS} {d : Nat} {M : zkY} {Z : zkZ} {pc : Nat} {lv : List (Option Value)} {st : List Value} {mem : zkM} (k n : Nat) {i : Int32} (hd : decode M.2.1 pc = .ok (.baload, 1)) (hk : k < S.1) (hly : S.2.1 k = some (.inl (n, 1))) (hin : vp_in i n) (kk : zk_J S d M Z (pc + 1) lv (.int (mem.1 k i.toNatClampNeg) :: st) mem) : zk_J S d M Z pc lv (.int i :: .ref k :: st) mem := by
  intro p l e s m args below meth c D α κ A H locs ls hF hP hD hS hl
  exact va_zald hF.1 hF.2.1 hF.2.2.2.2.2.2.2.1 hP k 1 (by rw [zk_w_get hk, zk_cell_arr hly]; rfl) rfl hin hd (kk p l e s m args below meth c D α κ A H locs ls hF hP hD hS hl)
theorem zk_laload {S : zkS} {d : Nat} {M : zkY} {Z : zkZ} {pc : Nat} {lv : List (Option Value)} {st : List Value} {mem : zkM} (k n : Nat) {i : Int32} (hd : decode M.2.1 pc = .ok (.laload, 1)) (hk : k < S.1) (hly : S.2.1 k = some (.inl (n, 2))) (hin : vp_in i n) (kk : zk_J S d M Z (pc + 1) lv (.long (mem.2 k i.toNatClampNeg) :: st) mem) : zk_J S d M Z pc lv (.int i :: .ref k :: st) mem := by
  intro p l e s m args below meth c D α κ A H locs ls hF hP hD hS hl
  exact va_lald hF.1 hF.2.1 hF.2.2.2.2.2.2.2.1 hP k 2 (by rw [zk_w_get hk, zk_cell_arr hly]; rfl) rfl hin hd (kk p l e s m args below meth c D α κ A H locs ls hF hP hD hS hl)
theorem zk_aaload {S : zkS} {d : Nat} {M : zkY} {Z : zkZ} {pc : Nat} {lv : List (Option Value)} {st : List Value} {mem : zkM} (k n : Nat) {i : Int32} (hd : decode M.2.1 pc = .ok (.aaload, 1)) (hk : k < S.1) (hly : S.2.1 k = some (.inl (n, 3))) (hin : vp_in i n) (kk : zk_J S d M Z (pc + 1) lv (.ref (S.2.2 k i.toNatClampNeg) :: st) mem) : zk_J S d M Z pc lv (.int i :: .ref k :: st) mem := by
  intro p l e s m args below meth c D α κ A H locs ls hF hP hD hS hl
  have hlt : i.toNatClampNeg < n := Nat.not_le.mp fun q => hin (Or.inr q)
  have hg : (zk_w S α κ mem)[k]? = some (α k, .inl (κ 3, n, .inr (.inr (.inr (.inr (fun i => if i < n then some (α (S.2.2 k i)) else none)))))) := by rw [zk_w_get hk, zk_cell_arr hly]; rfl
  exact W.aald (v := .ref (α (S.2.2 k i.toNatClampNeg))) (ty := .array .int) hF.1 hF.2.1 (hP k _ hg) ((hF.2.2.2.2.2.2.2.1.2 3 _ rfl).1 n (fun j => va_rf (if j < n then some (α (S.2.2 k j)) else none))) rfl (fun q => by cases q) (by show ¬ (i < 0 ∨ (arrV _ _ _).slots.size ≤ _); rw [arrV_size]; exact hin) (by show (arrV _ _ _).slots[_]? = _; rw [arrV_read _ _ hlt]; simp [hlt, va_rf]) rfl rfl hd (kk p l e s m args below meth c D α κ A H locs ls hF hP hD hS hl)
theorem zk_ialoadR {S : zkS} {d : Nat} {M : zkY} {Z : zkZ} {pc : Nat} {lv : List (Option Value)} {st : List Value} {mem : zkM} (j : Nat) {q : String × List Int32} {i : Int32} (hd : decode M.2.1 pc = .ok (.iaload, 1)) (hq : zk_stt[j]? = some q) (hin : vp_in i q.2.length) (kk : zk_J S d M Z (pc + 1) lv (.int (q.2.getD i.toNatClampNeg 0) :: st) mem) : zk_J S d M Z pc lv (.int i :: .ref (1000 + j) :: st) mem := by
  intro p l e s m args below meth c D α κ A H locs ls hF hP hD hS hl
  exact va_ti hF.1 hF.2.1 (hF.2.2.2.2.2.2.2.2.2 j q hq).2 hS hin rfl hd (kk p l e s m args below meth c D α κ A H locs ls hF hP hD hS hl)
theorem zk_alenR {S : zkS} {d : Nat} {M : zkY} {Z : zkZ} {pc : Nat} {lv : List (Option Value)} {st : List Value} {mem : zkM} (j : Nat) {q : String × List Int32} {v : Int32} (hd : decode M.2.1 pc = .ok (.arraylength, 1)) (hq : zk_stt[j]? = some q) (hv : Int32.ofNat q.2.length = v) (kk : zk_J S d M Z (pc + 1) lv (.int v :: st) mem) : zk_J S d M Z pc lv (.ref (1000 + j) :: st) mem := by
  intro p l e s m args below meth c D α κ A H locs ls hF hP hD hS hl
  exact va_tlen hF.1 hF.2.1 (hF.2.2.2.2.2.2.2.2.2 j q hq).2 hS hv hd (kk p l e s m args below meth c D α κ A H locs ls hF hP hD hS hl)
theorem zk_gets {S : zkS} {d : Nat} {M : zkY} {Z : zkZ} {pc : Nat} {lv : List (Option Value)} {st : List Value} {mem : zkM} (j : Nat) {q : String × List Int32} {idx : Nat} (hd : decode M.2.1 pc = .ok (.getstatic idx, 3)) (hq : zk_stt[j]? = some q) (hlk : Cond.fieldLink M.1.cls idx "TreePlanks$Script" q.1 "[I" ∈ zk_tb) (kk : zk_J S d M Z (pc + 3) lv (.ref (1000 + j) :: st) mem) : zk_J S d M Z pc lv st mem := by
  intro p l e s m args below meth c D α κ A H locs ls hF hP hD hS hl
  exact va_gets hF.1 hF.2.1 (hF.2.2.2.2.2.2.2.2.2 j q hq).1 hS hF.2.2.2.2.2.1 (hF.ts hlk) (fun _ h => h) hd (kk p l e s m args below meth c D α κ A H locs ls hF hP hD hS hl)
theorem zk_alen {S : zkS} {d : Nat} {M : zkY} {Z : zkZ} {pc : Nat} {lv : List (Option Value)} {st : List Value} {mem : zkM} (k n : Nat) {v : Int32} (hd : decode M.2.1 pc = .ok (.arraylength, 1)) (hk : k < S.1) (hly : S.2.1 k = some (.inl (n, 0))) (hv : Int32.ofNat n = v) (kk : zk_J S d M Z (pc + 1) lv (.int v :: st) mem) : zk_J S d M Z pc lv (.ref k :: st) mem := by
  intro p l e s m args below meth c D α κ A H locs ls hF hP hD hS hl
  exact va_alen hF.1 hF.2.1 hF.2.2.2.2.2.2.2.1 hP k 0 (x := (n, .inl (mem.1 k))) (by rw [zk_w_get hk, zk_cell_arr hly]; rfl) rfl hv hd (kk p l e s m args below meth c D α κ A H locs ls hF hP hD hS hl)
theorem zk_iastore {S : zkS} {d : Nat} {M : zkY} {Z : zkZ} {pc : Nat} {lv : List (Option Value)} {st : List Value} {mem : zkM} (k n : Nat) {i : Int32} {x : Int32} (hd : decode M.2.1 pc = .ok (.iastore, 1)) (hk : k < S.1) (hly : S.2.1 k = some (.inl (n, 0))) (hin : vp_in i n) (kk : zk_J S d M Z (pc + 1) lv st (zk_u mem k i.toNatClampNeg x)) : zk_J S d M Z pc lv (.int x :: .int i :: .ref k :: st) mem := by
  intro p l e s m args below meth c D α κ A H locs ls hF hP hD hS hl
  refine va_iast hF.1 hF.2.1 hF.2.2.2.2.2.2.2.1 hP hD hS k 0 (by rw [zk_w_get hk, zk_cell_arr hly]; rfl) rfl hin hd (fun H1 locs1 hP1 hD1 hS1 => ?_)
  have he := zk_put_arr (S := S) (α := α) (κ := κ) (mem := mem) (mem' := zk_u mem k i.toNatClampNeg x) hly (fun j hj => zk_u_off hj) (fun j hj => rfl) rfl
  unfold zk_arr at he
  simp only [zk_u_on] at he
  rw [he] at hP1 hD1
  exact kk p l e s m args below meth c D α κ A H1 locs1 ls hF hP1 hD1 hS1 hl
theorem zk_zastore {S : zkS} {d : Nat} {M : zkY} {Z : zkZ} {pc : Nat} {lv : List (Option Value)} {st : List Value} {mem : zkM} (k n : Nat) {i : Int32} {x : Int32} (hd : decode M.2.1 pc = .ok (.bastore, 1)) (hk : k < S.1) (hly : S.2.1 k = some (.inl (n, 1))) (hn : vp_nar .boolean x = x) (hin : vp_in i n) (kk : zk_J S d M Z (pc + 1) lv st (zk_u mem k i.toNatClampNeg x)) : zk_J S d M Z pc lv (.int x :: .int i :: .ref k :: st) mem := by
  intro p l e s m args below meth c D α κ A H locs ls hF hP hD hS hl
  refine va_zast hF.1 hF.2.1 hF.2.2.2.2.2.2.2.1 hP hD hS k 1 (by rw [zk_w_get hk, zk_cell_arr hly]; rfl) rfl hin hd (fun H1 locs1 hP1 hD1 hS1 => ?_)
  rw [hn] at hP1 hD1
  have he := zk_put_arr (S := S) (α := α) (κ := κ) (mem := mem) (mem' := zk_u mem k i.toNatClampNeg x) hly (fun j hj => zk_u_off hj) (fun j hj => rfl) rfl
  unfold zk_arr at he
  simp only [zk_u_on] at he
  rw [he] at hP1 hD1
  exact kk p l e s m args below meth c D α κ A H1 locs1 ls hF hP1 hD1 hS1 hl
theorem zk_lastore {S : zkS} {d : Nat} {M : zkY} {Z : zkZ} {pc : Nat} {lv : List (Option Value)} {st : List Value} {mem : zkM} (k n : Nat) {i : Int32} {x : Int64} (hd : decode M.2.1 pc = .ok (.lastore, 1)) (hk : k < S.1) (hly : S.2.1 k = some (.inl (n, 2))) (hin : vp_in i n) (kk : zk_J S d M Z (pc + 1) lv st (zk_ul mem k i.toNatClampNeg x)) : zk_J S d M Z pc lv (.long x :: .int i :: .ref k :: st) mem := by
  intro p l e s m args below meth c D α κ A H locs ls hF hP hD hS hl
  refine va_last hF.1 hF.2.1 hF.2.2.2.2.2.2.2.1 hP hD hS k 2 (by rw [zk_w_get hk, zk_cell_arr hly]; rfl) rfl hin hd (fun H1 locs1 hP1 hD1 hS1 => ?_)
  have he := zk_put_arr (S := S) (α := α) (κ := κ) (mem := mem) (mem' := zk_ul mem k i.toNatClampNeg x) hly (fun j hj => rfl) (fun j hj => zk_ul_off hj) rfl
  unfold zk_arr at he
  simp only [zk_ul_on] at he
  rw [he] at hP1 hD1
  exact kk p l e s m args below meth c D α κ A H1 locs1 ls hF hP1 hD1 hS1 hl
theorem zk_ldc {S : zkS} {d : Nat} {M : zkY} {Z : zkZ} {pc : Nat} {lv : List (Option Value)} {st : List Value} {mem : zkM} {idx : Nat} {v : Int32} (hd : decode M.2.1 pc = .ok (.ldc idx, 2)) (hc : Cond.constant M.1.cls idx v ∈ zk_tb) (kk : zk_J S d M Z (pc + 2) lv (.int v :: st) mem) : zk_J S d M Z pc lv st mem := by
  intro p l e s m args below meth c D α κ A H locs ls hF hP hD hS hl
  exact lv_ldc hF.1 hF.2.1 hF.2.2.2.2.2.1 (hF.ts hc) hd (kk p l e s m args below meth c D α κ A H locs ls hF hP hD hS hl)
theorem zk_ldcw {S : zkS} {d : Nat} {M : zkY} {Z : zkZ} {pc : Nat} {lv : List (Option Value)} {st : List Value} {mem : zkM} {idx : Nat} {v : Int32} (hd : decode M.2.1 pc = .ok (.ldc_w idx, 3)) (hc : Cond.constant M.1.cls idx v ∈ zk_tb) (kk : zk_J S d M Z (pc + 3) lv (.int v :: st) mem) : zk_J S d M Z pc lv st mem := by
  intro p l e s m args below meth c D α κ A H locs ls hF hP hD hS hl
  exact lv_ldcw hF.1 hF.2.1 hF.2.2.2.2.2.1 (hF.ts hc) hd (kk p l e s m args below meth c D α κ A H locs ls hF hP hD hS hl)
theorem zk_ldc2 {S : zkS} {d : Nat} {M : zkY} {Z : zkZ} {pc : Nat} {lv : List (Option Value)} {st : List Value} {mem : zkM} {idx : Nat} {v : Int64} (hd : decode M.2.1 pc = .ok (.ldc2_w idx, 3)) (hc : Cond.constantLong M.1.cls idx v ∈ zk_tb) (kk : zk_J S d M Z (pc + 3) lv (.long v :: st) mem) : zk_J S d M Z pc lv st mem := by
  intro p l e s m args below meth c D α κ A H locs ls hF hP hD hS hl
  exact lv_ldc2 hF.1 hF.2.1 hF.2.2.2.2.2.1 (hF.ts hc) hd (kk p l e s m args below meth c D α κ A H locs ls hF hP hD hS hl)
theorem zk_copy {S : zkS} {d : Nat} {M : zkY} {Z : zkZ} {pc : Nat} {lv : List (Option Value)} {st : List Value} {mem : zkM} (k0 k1 n0 n1 : Nat) {idx : Nat} {sp dp n : Int32} (hd : decode M.2.1 pc = .ok (.invokestatic idx, 3)) (hlk : Cond.methodLink M.1.cls idx arraycopyName ∈ zk_tb) (hw : Cond.native arraycopyName ∈ zk_tb ∧ Cond.static arraycopyName ∈ zk_tb ∧ Cond.initialized "java/lang/System" ∈ zk_tb) (hk0 : k0 < S.1) (hk1 : k1 < S.1) (hl0 : S.2.1 k0 = some (.inl (n0, 0))) (hl1 : S.2.1 k1 = some (.inl (n1, 0)))
    (h1 : ¬ sp < 0) (h2 : ¬ dp < 0) (h3 : ¬ n < 0) (h4 : sp.toNatClampNeg + n.toNatClampNeg ≤ n0) (h5 : dp.toNatClampNeg + n.toNatClampNeg ≤ n1) (hcat : (st.map fun v => v.category).sum ≤ 8)
    (kk : zk_J S d M Z (pc + 3) lv st (zk_cp mem k0 k1 sp.toNatClampNeg dp.toNatClampNeg n.toNatClampNeg)) : zk_J S d M Z pc lv (.int n :: .int dp :: .ref k1 :: .int sp :: .ref k0 :: st) mem := by
  intro p l e s m args below meth c D α κ A H locs ls hF hP hD hS hl
  refine va_copyi hF.1 hF.2.1 (hF.2.2.1.trans hl.1.symm) hF.2.2.2.2.2.1 (hF.ts hlk) (hF.ts hw.1) (hF.ts hw.2.1) (hF.ts hw.2.2) hF.2.2.2.2.2.2.2.1 hP hD hS k0 k1 0 0 (n0 := n0) (n1 := n1) (f := mem.1 k0) (g := mem.1 k1) (ty := .int) (by rw [zk_w_get hk0, zk_cell_arr hl0]; rfl) (by rw [zk_w_get hk1, zk_cell_arr hl1]; rfl) rfl rfl rfl h1 h2 h3 h4 h5 (fun _ _ => rfl) (by show 1 ≤ d + 1; omega) ?_ hd (fun H1 locs1 hP1 hD1 hS1 => ?_)
  · rw [zk_cat]
    have h7 : nativeFrameWords "java/lang/System" "arraycopy" 5 = 7 := by decide +kernel
    rw [h7]
    show _ ≤ 64 * d + 64
    omega
  · have he := zk_put_arr (S := S) (α := α) (κ := κ) (mem := mem) (mem' := zk_cp mem k0 k1 sp.toNatClampNeg dp.toNatClampNeg n.toNatClampNeg) hl1 (fun j hj => zk_cp_off hj) (fun j hj => rfl) rfl
    unfold zk_arr at he
    simp only [zk_cp_on] at he
    rw [he] at hP1 hD1
    exact kk p l e s m args below meth c D α κ A H1 locs1 ls hF hP1 hD1 hS1 hl
/-! calls -/
theorem zk_ro.go {α : Nat → Nat} {A : Nat → Prop} {s U : State} {H0 H : Heap} {locs : List Loc} (h : zk_ro α A s H0) (hS : va_S A H0 H locs) (hW : s.WarmedH U.vm) : zk_ro α A U H :=
  ⟨fun q hq => va_Nw.warmM hW (h.1 q hq), fun j q hq => ⟨((h.2 j q hq).1.moved hW.alike).kept hS.2.1, ((h.2 j q hq).2.moved hW.alike).kept hS.2.1⟩⟩
theorem zk_B.blind {S : zkS} {D : va_G} {α : Nat → Nat} {κ : Nat → ClassId} {A : Nat → Prop} {mem : zkM} {av : List Value} : FrameBlind (va_Pc av (zk_B S D α κ A mem)) := fun a U g mk q => by
  obtain ⟨q0, qP, qK, qD, qR⟩ := q
  exact ⟨q0, qP, va_K.moved (u := U) (U := U.calling g mk a) (Vm.Alike.refl U.vm) qK, qD, fun x hx => va_Nw.same (u := U) rfl rfl (qR.1 x hx), fun j x hx => ⟨(qR.2 j x hx).1.moved (U := U.calling g mk a) (Vm.Alike.refl U.vm), (qR.2 j x hx).2.moved (U := U.calling g mk a) (Vm.Alike.refl U.vm)⟩⟩
theorem zk_good {M M' : zkY} (h : Cond.code M'.1 M'.2.1 M'.2.2.1 M'.2.2.2 ∈ zk_tb) : GoodIn (zk_ws M) (zk_ws M') := by
  intro w hw
  rcases List.mem_cons.mp hw with rfl | hw
  · exact ⟨List.mem_cons_of_mem _ h, Or.inl rfl⟩
  · exact ⟨List.mem_cons_of_mem _ hw, good_of_word (List.mem_filter.mp hw).2⟩
def zk_lk (M' : zkY) (n : Nat) : Prop := Cond.code M'.1 M'.2.1 M'.2.2.1 M'.2.2.2 ∈ zk_tb ∧ Cond.initialized M'.1.cls ∈ zk_tb ∧ (M'.1.cls ≠ "java/lang/invoke/MethodHandle" ∧ M'.1.cls ≠ "java/lang/invoke/VarHandle" ∧ (parseMethodDescriptor M'.1.desc).map (fun d => d.parameters.length) = some n) ∧ M'.2.2.1 ≤ 40
/-- behind a call -/
theorem zk_run {S : zkS} {d : Nat} {M : zkY} {Z : zkZ} {r' : Option Value × zkM} {pc : Nat} {lv : List (Option Value)} {st : List Value}
    {p : Program} {l : Launch} {e : Env} {s : State} {m : MethodId} {args : Array Value} {below : List Frame} {meth : Method} {c : Code} {D : va_G} {α : Nat → Nat} {κ : Nat → ClassId} {A : Nat → Prop} {H : Heap} {locs : List Loc} {ls : Array Slot} {st0 : List Value} {a : Array Value}
    (hr : va_Run p l e (zk_room d) s m args below meth c H locs 0 0 0 0 (F0 m pc ls st0) (st.map (zk_cv α)) (zk_Q S D α κ A r' a) A)
    (hF : zk_F M p s m args meth c D α κ A) (hS : va_S A s.heap H locs) (hl : zk_lv α M.2.2.1 ls lv) (kk : zk_J S d M Z (pc + 3) lv (r'.1.toList ++ st) r'.2) :
    W p l e (zk_room d) s m args below meth c H locs 0 0 (MQ below (Z D α κ A) args s 0 0 A) (F0 m pc ls st0) := by
  intro T hT X
  obtain ⟨v, st₀, t, T', L, h0, X', hL, e1, e2, ⟨hv, ⟨hP1, hK1, hD1, hR1⟩, hz, hk⟩, stp⟩ := hr T hT X
  cases hv
  rw [h0] at hz hk
  obtain ⟨t2, a1, b1⟩ := kk p l e s m args below meth c D α κ A T'.heap (locs ++ L) ls hF (by rw [e1]; exact hP1) hD1
    ⟨Nat.le_trans hS.1 (by rw [e1]; exact hz), fun q h1 h2 => by rw [e1, hk q (Nat.lt_of_lt_of_le h1 hS.1) h2]; exact hS.2.1 q h1 h2, fun q hq => by
      rcases List.mem_append.mp hq with h | h
      · exact hS.2.2 q h
      · exact hL q h⟩ hl T' rfl X'
  refine ⟨t2, stp t2 ?_, b1⟩
  have hm : (r'.1.toList ++ st).map (zk_cv α) = (r'.1.map (zk_cv α)).toList ++ st.map (zk_cv α) := by
    rw [List.map_append]
    cases r'.1 <;> rfl
  rw [hm] at a1
  exact a1
theorem zk_room_ok {d d' n : Nat} (hd : d' < d) (hn : n ≤ 40) : (zk_room d').frames + 1 ≤ (zk_room d).frames ∧ 8 + (n + 11) + (zk_room d').locals ≤ (zk_room d).locals := by
  show d' + 1 + 1 ≤ d + 1 ∧ 8 + (n + 11) + (64 * d' + 64) ≤ 64 * d + 64
  omega

theorem zk_callS {S : zkS} {d : Nat} {M : zkY} {Z : zkZ} {pc : Nat} {lv : List (Option Value)} {mem : zkM} (M' : zkY) (as : List Value) {st : List Value} {d' idx : Nat} {r' : Option Value × zkM} (hd : decode M.2.1 pc = .ok (.invokestatic idx, 3)) (hL : zk_lk M' as.length) (hlk : Cond.methodLink M.1.cls idx M'.1 ∈ zk_tb ∧ Cond.static M'.1 ∈ zk_tb) (hM : zk_X S d' M' as mem r') (hdd : d' < d) (hcat : (st.map fun v => v.category).sum ≤ 8)
    (kk : zk_J S d M Z (pc + 3) lv (r'.1.toList ++ st) r'.2) : zk_J S d M Z pc lv (as.reverse ++ st) mem := by
  intro p l e s m args below meth c D α κ A H locs ls hF hP hD hS hl
  refine zk_run (va_runS (As := as.map (zk_cv α)) ⟨hF.1, hF.2.1, hF.2.2.1, hF.2.2.2.2.2.1, hF.2.2.2.2.2.2.1⟩ (hM l D α κ A) ⟨callB_of as.length hF.2.2.2.2.2.2.1 (zk_good hL.1) rfl rfl rfl (hF.ts hL.2.1) (hF.ts hlk.1) hL.2.2.1 (zk_room_ok hdd hL.2.2.2), hF.ts hlk.2⟩ ⟨zk_B.blind, fun U hU hW => ⟨rfl, ⟨by rw [hU]; exact hP, va_K.moved hW.alike hF.2.2.2.2.2.2.2.1, hD, by rw [hU]; exact hF.2.2.2.2.2.2.2.2.go hS hW⟩⟩⟩ rfl (by rw [List.length_map]) hl.1 (by simp [List.map_reverse]) (by rw [zk_cat]; exact lv_room hcat) hd ⟨Nat.le_refl _, Nat.le_refl _⟩) hF hS hl kk
theorem zk_callN {S : zkS} {d : Nat} {M : zkY} {Z : zkZ} {pc : Nat} {lv : List (Option Value)} {mem : zkM} (M' : zkY) (as : List Value) {st : List Value} {d' idx : Nat} {r' : Option Value × zkM} (hd : decode M.2.1 pc = .ok (.invokestatic idx, 3)) (hL : zk_lk M' as.length) (hlk : (M.1.cls, idx, M'.1, "TreePlanks") ∈ zk_nst ∧ Cond.static M'.1 ∈ zk_tb) (hM : zk_X S d' M' as mem r') (hdd : d' < d) (hcat : (st.map fun v => v.category).sum ≤ 8)
    (kk : zk_J S d M Z (pc + 3) lv (r'.1.toList ++ st) r'.2) : zk_J S d M Z pc lv (as.reverse ++ st) mem := by
  intro p l e s m args below meth c D α κ A H locs ls hF hP hD hS hl
  refine zk_run (va_runSN (As := as.map (zk_cv α)) ⟨hF.1, hF.2.1, hF.2.2.1, hF.2.2.2.2.2.1, hF.2.2.2.2.2.2.1⟩ (hM l D α κ A) ⟨va_cnB as.length hF.2.2.2.2.2.2.1 (zk_good hL.1) rfl rfl rfl (hF.2.2.2.2.2.2.2.2.1 _ hlk.1) (hF.ts hL.2.1) hL.2.2.1 (zk_room_ok hdd hL.2.2.2), hF.ts hlk.2, trivial⟩ ⟨zk_B.blind, fun U hU hW => ⟨rfl, ⟨by rw [hU]; exact hP, va_K.moved hW.alike hF.2.2.2.2.2.2.2.1, hD, by rw [hU]; exact hF.2.2.2.2.2.2.2.2.go hS hW⟩⟩⟩ rfl (by rw [List.length_map]) hl.1 (by simp [List.map_reverse]) (by rw [zk_cat]; exact lv_room hcat) hd ⟨Nat.le_refl _, Nat.le_refl _⟩) hF hS hl kk
theorem zk_callV {S : zkS} {d : Nat} {M : zkY} {Z : zkZ} {pc : Nat} {lv : List (Option Value)} {mem : zkM} (M' : zkY) (k ci : Nat) (as : List Value) {C : String} {T : u_T} {N : Nat} {st : List Value} {d' idx : Nat} {r' : Option Value × zkM} (hd : decode M.2.1 pc = .ok (.invokevirtual idx, 3)) (hL : zk_lk M' as.length) (hlk : Cond.methodLink M.1.cls idx M'.1 ∈ zk_tb ∧ Cond.instanceMethod M'.1 ∈ zk_tb ∧ Cond.selects C M'.1 M'.1 ∈ zk_tb) (hok : zk_ok ci C T N) (hk : k < S.1) (hly : S.2.1 k = some (.inr ci)) (hM : zk_X S d' M' (.ref k :: as) mem r') (hdd : d' < d) (hcat : (st.map fun v => v.category).sum ≤ 8)
    (kk : zk_J S d M Z (pc + 3) lv (r'.1.toList ++ st) r'.2) : zk_J S d M Z pc lv (as.reverse ++ .ref k :: st) mem := by
  intro p l e s m args below meth c D α κ A H locs ls hF hP hD hS hl
  refine zk_run (va_runV (As := as.map (zk_cv α)) (b := α k) (C := C) ⟨hF.1, hF.2.1, hF.2.2.1, hF.2.2.2.2.2.1, hF.2.2.2.2.2.2.1⟩ (hM l D α κ A) ⟨callB_of as.length hF.2.2.2.2.2.2.1 (zk_good hL.1) rfl rfl rfl (hF.ts hL.2.1) (hF.ts hlk.1) hL.2.2.1 (zk_room_ok hdd hL.2.2.2), hF.ts hlk.2.1, hF.ts hlk.2.2⟩ ⟨zk_B.blind, va_recv hF.2.2.2.2.2.2.2.1 hP hok.1 (q0 := k) (by rw [zk_w_get hk, zk_cell_obj hly]), fun U hU hW => ⟨rfl, ⟨by rw [hU]; exact hP, va_K.moved hW.alike hF.2.2.2.2.2.2.2.1, hD, by rw [hU]; exact hF.2.2.2.2.2.2.2.2.go hS hW⟩⟩⟩ rfl (by rw [List.length_map]) hl.1 (by simp [List.map_reverse, zk_cv]) (by rw [zk_cat]; exact lv_room hcat) hd ⟨Nat.le_refl _, Nat.le_refl _⟩) hF hS hl kk
theorem zk_ireturn {S : zkS} {d : Nat} {M : zkY} {r : Option Value × zkM} {pc : Nat} {lv : List (Option Value)} {mem : zkM} {x : Int32} (hd : decode M.2.1 pc = .ok (.ireturn, 1)) (hrt : M.2.2.2 = some .int) (hr : (some (.int x), mem) = r) : zk_J S d M (zk_R S r) pc lv [.int x] mem := by
  intro p l e s m args below meth c D α κ A H locs ls hF hP hD hS hl
  subst hr
  exact W.iret hF.1 hF.2.1 (hF.2.2.2.1.trans hrt) (fun t ht hW => ⟨rfl, ⟨by rw [ht]; exact hP, va_K.moved hW.alike hF.2.2.2.2.2.2.2.1, hD, by rw [ht]; exact hF.2.2.2.2.2.2.2.2.go hS hW⟩, hS.F ht⟩) hS.2.2 hd hF.2.2.2.2.1
theorem zk_zreturn {S : zkS} {d : Nat} {M : zkY} {r : Option Value × zkM} {pc : Nat} {lv : List (Option Value)} {mem : zkM} {x : Int32} (hd : decode M.2.1 pc = .ok (.ireturn, 1)) (hrt : M.2.2.2 = some .boolean) (hn : narrow .boolean (.int x) = .int x) (hr : (some (.int x), mem) = r) : zk_J S d M (zk_R S r) pc lv [.int x] mem := by
  intro p l e s m args below meth c D α κ A H locs ls hF hP hD hS hl
  subst hr
  exact W.zret hF.1 hF.2.1 (hF.2.2.2.1.trans hrt) hn (fun t ht hW => ⟨rfl, ⟨by rw [ht]; exact hP, va_K.moved hW.alike hF.2.2.2.2.2.2.2.1, hD, by rw [ht]; exact hF.2.2.2.2.2.2.2.2.go hS hW⟩, hS.F ht⟩) hS.2.2 hd hF.2.2.2.2.1
theorem zk_lreturn {S : zkS} {d : Nat} {M : zkY} {r : Option Value × zkM} {pc : Nat} {lv : List (Option Value)} {mem : zkM} {x : Int64} (hd : decode M.2.1 pc = .ok (.lreturn, 1)) (hrt : M.2.2.2 = some .long) (hr : (some (.long x), mem) = r) : zk_J S d M (zk_R S r) pc lv [.long x] mem := by
  intro p l e s m args below meth c D α κ A H locs ls hF hP hD hS hl
  subst hr
  exact W.lret hF.1 hF.2.1 (hF.2.2.2.1.trans hrt) (fun t ht hW => ⟨rfl, ⟨by rw [ht]; exact hP, va_K.moved hW.alike hF.2.2.2.2.2.2.2.1, hD, by rw [ht]; exact hF.2.2.2.2.2.2.2.2.go hS hW⟩, hS.F ht⟩) hS.2.2 hd hF.2.2.2.2.1
theorem zk_vreturn {S : zkS} {d : Nat} {M : zkY} {r : Option Value × zkM} {pc : Nat} {lv : List (Option Value)} {mem : zkM}  (hd : decode M.2.1 pc = .ok (.return_, 1)) (hrt : M.2.2.2 = none) (hr : (none, mem) = r) : zk_J S d M (zk_R S r) pc lv [] mem := by
  intro p l e s m args below meth c D α κ A H locs ls hF hP hD hS hl
  subst hr
  exact W.vret hF.1 hF.2.1 (hF.2.2.2.1.trans hrt) (fun t ht hW => ⟨rfl, ⟨by rw [ht]; exact hP, va_K.moved hW.alike hF.2.2.2.2.2.2.2.1, hD, by rw [ht]; exact hF.2.2.2.2.2.2.2.2.go hS hW⟩, hS.F ht⟩) hS.2.2 hd hF.2.2.2.2.1
/-! entry -/
def zk_ent : List Value → List (Option Value)
  | [] => []
  | v :: vs => if v.category = 2 then some v :: none :: zk_ent vs else some v :: zk_ent vs
theorem zk_ent_mem (α : Nat → Nat) : ∀ (as : List Value) (n i : Nat) (v : Value), (zk_ent as)[i]? = some (some v) → (n + i, zk_cv α v) ∈ lv_args n (as.map (zk_cv α))
  | [], n, i, v, h => by simp [zk_ent] at h
  | a :: as, n, i, v, h => by
    rw [List.map_cons]
    unfold lv_args
    rw [zk_cv_cat]
    unfold zk_ent at h
    by_cases hc : a.category = 2
    · rw [if_pos hc] at h ⊢
      match i, h with
      | 0, h => simp at h; subst h; exact List.mem_cons_self
      | 1, h => simp at h
      | i + 2, h =>
        have := zk_ent_mem α as (n + 2) i v (by simpa using h)
        rw [show n + (i + 2) = n + 2 + i by omega]
        exact List.mem_cons_of_mem _ this
    · rw [if_neg hc] at h ⊢
      match i, h with
      | 0, h => simp at h; subst h; exact List.mem_cons_self
      | i + 1, h =>
        have := zk_ent_mem α as (n + 1) i v (by simpa using h)
        rw [show n + (i + 1) = n + 1 + i by omega]
        exact List.mem_cons_of_mem _ this
theorem zk_pad {a : List (Option Value)} {n i : Nat} {v : Value} (h : (a ++ List.replicate n none)[i]? = some (some v)) : a[i]? = some (some v) := by
  by_cases hl : i < a.length
  · rwa [List.getElem?_append_left hl] at h
  · rw [List.getElem?_append_right (by omega)] at h
    have := List.eq_of_mem_replicate (List.mem_of_getElem? h)
    cases this
/-- a contract out of the walk of the body -/
theorem zk_meet {S : zkS} {d : Nat} {M : zkY} {as : List Value} {mem : zkM} {r : Option Value × zkM} {n : Nat} {lv : List (Option Value)} (hy : plainName M.1.cls = true) (hlv : zk_ent as ++ List.replicate n none = lv) (hz : (as.map fun v => v.category).sum ≤ M.2.2.1)
    (k : zk_J S d M (zk_R S r) 0 lv [] mem) : zk_X S d M as mem r := by
  intro l D α κ A
  refine Met.ofW (cc := M.2.1) (maxL := M.2.2.1) (ret := M.2.2.2) hy rfl ?_
  intro p e s m args below meth c s₁ B hml hv
  obtain ⟨rfl, hP, hK, hD, hR⟩ := hv
  have hlen : (lg_sl (as.map (zk_cv α))).length ≤ M.2.2.1 := by
    have : ∀ xs : List Value, (lg_sl xs).length = (xs.map fun v => v.category).sum := by
      intro xs
      induction xs with
      | nil => rfl
      | cons x xs ih =>
        unfold lg_sl at ih ⊢
        rw [List.flatMap_cons, List.length_append, ih, List.map_cons, List.sum_cons]
        cases x <;> rfl
    rw [this, zk_cat]
    exact hz
  have hl := lv_entry (as.map (zk_cv α)) (n := M.2.2.1) hlen
  rw [lg_entry_eq]
  generalize (lg_sl (as.map (zk_cv α)) ++ List.replicate (M.2.2.1 - (lg_sl (as.map (zk_cv α))).length) Slot.unset).toArray = ls at hl ⊢
  exact k p l e s m _ below meth c D α κ A s.heap [] ls ⟨B.exec, B.bytes, hml, B.returns, B.notSynchronized, findClass_of_methodNamed B.named, atoms_spec (ws := zk_ws M) B.pre, hK, hR⟩ hP hD va_S.rf
    ⟨hl.1, hl.2.1, fun i v h => by
      rw [← hlv] at h
      have h2 := zk_ent_mem α as 0 i v (zk_pad h)
      rw [Nat.zero_add] at h2
      exact hl.2.2 _ h2⟩
/-! what an equation of an Option gives -/
theorem zk_ob {α β : Type} {o : Option α} {g : α → Option β} {z : β} (h : o.bind g = some z) : ∃ v, o = some v ∧ g v = some z := Option.bind_eq_some_iff.mp h
theorem zk_it {α : Type} {c : Prop} (dc : Decidable c) {a b z : α} (h : (if c then a else b) = z) (hc : c) : a = z := by rw [if_pos hc] at h; exact h
theorem zk_if {α : Type} {c : Prop} (dc : Decidable c) {a b z : α} (h : (if c then a else b) = z) (hc : ¬ c) : b = z := by rw [if_neg hc] at h; exact h
def zk_inb (i : Int32) (n : Nat) : Bool := decide (0 ≤ i) && decide (i.toNatClampNeg < n)
theorem zk_inb_in {i : Int32} {n : Nat} (h : zk_inb i n = true) : vp_in i n := by
  unfold zk_inb at h
  simp only [Bool.and_eq_true, decide_eq_true_eq] at h
  rintro (q | q)
  · exact absurd h.1 (Int32.not_le.mpr q)
  · omega
theorem zk_gd {α : Type} {c : Bool} {o : Option α} {z : α} (h : (bif c then o else none) = some z) : c = true ∧ o = some z := by
  cases c with
  | true => exact ⟨rfl, h⟩
  | false => cases h
theorem zk_nb (b : Bool) : narrow .boolean (.int (zk_b b)) = .int (zk_b b) := by cases b <;> rfl
theorem zk_b_eq0 (b : Bool) : zk_b b = 0 ↔ b = false := by cases b <;> decide
theorem zk_b_eq1 (b : Bool) : zk_b b = 1 ↔ b = true := by cases b <;> decide

