/-! names for what is computed; calls by the kind of their answer; fewer locals -/
def zk_let {α β : Type} (a : α) (g : α → β) : β := g a
theorem zk_lt {α β : Type} {a : α} {g : α → β} {z : β} (h : zk_let a g = z) : ∃ q, a = q ∧ g q = z := ⟨a, rfl, h⟩
theorem zk_dz {α : Type} {c : Prop} {dc : Decidable c} {o : Option α} {z : α} (h : (if c then none else o) = some z) : ¬ c ∧ o = some z := by
  by_cases hc : c
  · rw [if_pos hc] at h; cases h
  · rw [if_neg hc] at h; exact ⟨hc, h⟩
theorem zk_er {α β γ : Type} {f : α → γ} {g : β → γ} {y : β} {z : γ} (h : Sum.elim f g (.inr y) = z) : g y = z := h
theorem zk_el {α β γ : Type} {f : α → γ} {g : β → γ} {y : α} {z : γ} (h : Sum.elim f g (.inl y) = z) : f y = z := h
theorem zk_leE {b : List (Option Value)} : zk_le [] b := trivial
theorem zk_leN {a b : List (Option Value)} {y : Option Value} (h : zk_le a b) : zk_le (none :: a) (y :: b) := h
theorem zk_leS {a b : List (Option Value)} {v : Value} (h : zk_le a b) : zk_le (some v :: a) (some v :: b) := ⟨rfl, h⟩
section
variable {S : zkS} {d : Nat} {M : zkY} {Z : zkZ} {pc : Nat} {lv : List (Option Value)} {st : List Value} {mem mem' : zkM}
theorem zk_istore_n' {j : Fin 4} {i : Nat} {x x' : Int32} (hd : decode M.2.1 pc = .ok (.istore_n j, 1)) (hi : (j : Nat) = i) (e : x = x') (hn : i < M.2.2.1) (hc : zk_nl lv i = true) (k : zk_J S d M Z (pc + 1) (lv.set i (some (.int x'))) st mem) : zk_J S d M Z pc lv (.int x :: st) mem := by subst e; exact zk_istore_n hd hi hn hc k
theorem zk_istore' {i : Nat} {x x' : Int32} (hd : decode M.2.1 pc = .ok (.istore i, 2)) (e : x = x') (hn : i < M.2.2.1) (hc : zk_nl lv i = true) (k : zk_J S d M Z (pc + 2) (lv.set i (some (.int x'))) st mem) : zk_J S d M Z pc lv (.int x :: st) mem := by subst e; exact zk_istore hd hn hc k
theorem zk_lstore_n' {j : Fin 4} {i : Nat} {x x' : Int64} (hd : decode M.2.1 pc = .ok (.lstore_n j, 1)) (hi : (j : Nat) = i) (e : x = x') (hn : i + 1 < M.2.2.1) (hc : zk_nl lv i = true) (k : zk_J S d M Z (pc + 1) ((lv.set i (some (.long x'))).set (i + 1) none) st mem) : zk_J S d M Z pc lv (.long x :: st) mem := by subst e; exact zk_lstore_n hd hi hn hc k
theorem zk_lstore' {i : Nat} {x x' : Int64} (hd : decode M.2.1 pc = .ok (.lstore i, 2)) (e : x = x') (hn : i + 1 < M.2.2.1) (hc : zk_nl lv i = true) (k : zk_J S d M Z (pc + 2) ((lv.set i (some (.long x'))).set (i + 1) none) st mem) : zk_J S d M Z pc lv (.long x :: st) mem := by subst e; exact zk_lstore hd hn hc k
theorem zk_iinc2 {i : Nat} {n : Int} {x w : Int32} (hd : decode M.2.1 pc = .ok (.iinc i n, 3)) (hv : lv[i]? = some (some (.int x))) (he : Int32.ofInt n = w) (hn : i < M.2.2.1) (hc : zk_nl lv i = true) (k : zk_J S d M Z (pc + 3) (lv.set i (some (.int (x + w)))) st mem) : zk_J S d M Z pc lv st mem := zk_iinc hd hv (by rw [he]) hn hc k
theorem zk_putI' (k ci f : Nat) {idx : Nat} {x : Int32} (hd : decode M.2.1 pc = .ok (.putfield idx, 3)) (hf : zk_fp M.1.cls idx ci f) (hk : k < S.1) (hly : S.2.1 k = some (.inr ci)) (ht : zk_ty ci f = .int) (e : zk_u mem k f x = mem') (kk : zk_J S d M Z (pc + 3) lv st mem') : zk_J S d M Z pc lv (.int x :: .ref k :: st) mem := by subst e; exact zk_putI k ci f hd hf hk hly ht kk
theorem zk_putZ' (k ci f : Nat) {idx : Nat} {x : Int32} (hd : decode M.2.1 pc = .ok (.putfield idx, 3)) (hf : zk_fp M.1.cls idx ci f) (hk : k < S.1) (hly : S.2.1 k = some (.inr ci)) (ht : zk_ty ci f = .boolean) (hn : narrow .boolean (.int x) = .int x) (hb : fits .boolean (.int x) = true) (e : zk_u mem k f x = mem') (kk : zk_J S d M Z (pc + 3) lv st mem') : zk_J S d M Z pc lv (.int x :: .ref k :: st) mem := by subst e; exact zk_putZ k ci f hd hf hk hly ht hn hb kk
theorem zk_putL' (k ci f : Nat) {idx : Nat} {x : Int64} (hd : decode M.2.1 pc = .ok (.putfield idx, 3)) (hf : zk_fp M.1.cls idx ci f) (hk : k < S.1) (hly : S.2.1 k = some (.inr ci)) (ht : zk_ty ci f = .long) (e : zk_ul mem k f x = mem') (kk : zk_J S d M Z (pc + 3) lv st mem') : zk_J S d M Z pc lv (.long x :: .ref k :: st) mem := by subst e; exact zk_putL k ci f hd hf hk hly ht kk
theorem zk_iastore' (k n : Nat) {i : Int32} {x : Int32} (hd : decode M.2.1 pc = .ok (.iastore, 1)) (hk : k < S.1) (hly : S.2.1 k = some (.inl (n, 0))) (hin : vp_in i n) (e : zk_u mem k i.toNatClampNeg x = mem') (kk : zk_J S d M Z (pc + 1) lv st mem') : zk_J S d M Z pc lv (.int x :: .int i :: .ref k :: st) mem := by subst e; exact zk_iastore k n hd hk hly hin kk
theorem zk_zastore' (k n : Nat) {i : Int32} {x : Int32} (hd : decode M.2.1 pc = .ok (.bastore, 1)) (hk : k < S.1) (hly : S.2.1 k = some (.inl (n, 1))) (hn : vp_nar .boolean x = x) (hin : vp_in i n) (e : zk_u mem k i.toNatClampNeg x = mem') (kk : zk_J S d M Z (pc + 1) lv st mem') : zk_J S d M Z pc lv (.int x :: .int i :: .ref k :: st) mem := by subst e; exact zk_zastore k n hd hk hly hn hin kk
theorem zk_lastore' (k n : Nat) {i : Int32} {x : Int64} (hd : decode M.2.1 pc = .ok (.lastore, 1)) (hk : k < S.1) (hly : S.2.1 k = some (.inl (n, 2))) (hin : vp_in i n) (e : zk_ul mem k i.toNatClampNeg x = mem') (kk : zk_J S d M Z (pc + 1) lv st mem') : zk_J S d M Z pc lv (.long x :: .int i :: .ref k :: st) mem := by subst e; exact zk_lastore k n hd hk hly hin kk
theorem zk_copyI (k0 k1 n0 n1 N : Nat) {idx : Nat} {n : Int32} (hd : decode M.2.1 pc = .ok (.invokestatic idx, 3)) (hlk : Cond.methodLink M.1.cls idx arraycopyName ∈ zk_tb) (hw : Cond.native arraycopyName ∈ zk_tb ∧ Cond.static arraycopyName ∈ zk_tb ∧ Cond.initialized "java/lang/System" ∈ zk_tb) (hk0 : k0 < S.1) (hk1 : k1 < S.1) (hl0 : S.2.1 k0 = some (.inl (n0, 0))) (hl1 : S.2.1 k1 = some (.inl (n1, 0))) (h3 : ¬ n < 0) (hN : n.toNatClampNeg = N) (h4 : N ≤ n0) (h5 : N ≤ n1) (hcat : (st.map fun v => v.category).sum ≤ 8) (e : zk_cp mem k0 k1 0 0 N = mem') (kk : zk_J S d M Z (pc + 3) lv st mem') : zk_J S d M Z pc lv (.int n :: .int 0 :: .ref k1 :: .int 0 :: .ref k0 :: st) mem := by
  subst e
  subst hN
  have h0 : (0 : Int32).toNatClampNeg = 0 := by decide
  refine zk_copy k0 k1 n0 n1 hd hlk hw hk0 hk1 hl0 hl1 (by decide) (by decide) h3 (by rw [h0]; omega) (by rw [h0]; omega) hcat ?_
  rw [h0]
  exact kk
end
section
variable {S : zkS} {d : Nat} {M : zkY} {Z : zkZ} {pc : Nat} {lv : List (Option Value)} {st : List Value} {mem mem' : zkM}
theorem zk_callSi (M' : zkY) (as : List Value) {d' idx : Nat} {v : Int32} (hd : decode M.2.1 pc = .ok (.invokestatic idx, 3)) (hL : zk_lk M' as.length) (hlk : Cond.methodLink M.1.cls idx M'.1 ∈ zk_tb ∧ Cond.static M'.1 ∈ zk_tb) (hM : zk_X S d' M' as mem (some (.int v), mem')) (hdd : d' < d) (hcat : (st.map fun v => v.category).sum ≤ 8) (kk : zk_J S d M Z (pc + 3) lv (.int v :: st) mem') : zk_J S d M Z pc lv (as.reverse ++ st) mem := zk_callS M' as hd hL hlk hM hdd hcat kk
theorem zk_callSl (M' : zkY) (as : List Value) {d' idx : Nat} {v : Int64} (hd : decode M.2.1 pc = .ok (.invokestatic idx, 3)) (hL : zk_lk M' as.length) (hlk : Cond.methodLink M.1.cls idx M'.1 ∈ zk_tb ∧ Cond.static M'.1 ∈ zk_tb) (hM : zk_X S d' M' as mem (some (.long v), mem')) (hdd : d' < d) (hcat : (st.map fun v => v.category).sum ≤ 8) (kk : zk_J S d M Z (pc + 3) lv (.long v :: st) mem') : zk_J S d M Z pc lv (as.reverse ++ st) mem := zk_callS M' as hd hL hlk hM hdd hcat kk
theorem zk_callSv (M' : zkY) (as : List Value) {d' idx : Nat} (hd : decode M.2.1 pc = .ok (.invokestatic idx, 3)) (hL : zk_lk M' as.length) (hlk : Cond.methodLink M.1.cls idx M'.1 ∈ zk_tb ∧ Cond.static M'.1 ∈ zk_tb) (hM : zk_X S d' M' as mem (none, mem')) (hdd : d' < d) (hcat : (st.map fun v => v.category).sum ≤ 8) (kk : zk_J S d M Z (pc + 3) lv st mem') : zk_J S d M Z pc lv (as.reverse ++ st) mem := zk_callS M' as hd hL hlk hM hdd hcat kk
theorem zk_callNi (M' : zkY) (as : List Value) {d' idx : Nat} {v : Int32} (hd : decode M.2.1 pc = .ok (.invokestatic idx, 3)) (hL : zk_lk M' as.length) (hlk : (M.1.cls, idx, M'.1, "TreePlanks") ∈ zk_nst ∧ Cond.static M'.1 ∈ zk_tb) (hM : zk_X S d' M' as mem (some (.int v), mem')) (hdd : d' < d) (hcat : (st.map fun v => v.category).sum ≤ 8) (kk : zk_J S d M Z (pc + 3) lv (.int v :: st) mem') : zk_J S d M Z pc lv (as.reverse ++ st) mem := zk_callN M' as hd hL hlk hM hdd hcat kk
theorem zk_callVi (M' : zkY) (k ci : Nat) (as : List Value) {C : String} {T : u_T} {N : Nat} {d' idx : Nat} {v : Int32} (hd : decode M.2.1 pc = .ok (.invokevirtual idx, 3)) (hL : zk_lk M' as.length) (hlk : Cond.methodLink M.1.cls idx M'.1 ∈ zk_tb ∧ Cond.instanceMethod M'.1 ∈ zk_tb ∧ Cond.selects C M'.1 M'.1 ∈ zk_tb) (hok : zk_ok ci C T N) (hk : k < S.1) (hly : S.2.1 k = some (.inr ci)) (hM : zk_X S d' M' (.ref k :: as) mem (some (.int v), mem')) (hdd : d' < d) (hcat : (st.map fun v => v.category).sum ≤ 8) (kk : zk_J S d M Z (pc + 3) lv (.int v :: st) mem') : zk_J S d M Z pc lv (as.reverse ++ .ref k :: st) mem := zk_callV M' k ci as hd hL hlk hok hk hly hM hdd hcat kk
theorem zk_callVl (M' : zkY) (k ci : Nat) (as : List Value) {C : String} {T : u_T} {N : Nat} {d' idx : Nat} {v : Int64} (hd : decode M.2.1 pc = .ok (.invokevirtual idx, 3)) (hL : zk_lk M' as.length) (hlk : Cond.methodLink M.1.cls idx M'.1 ∈ zk_tb ∧ Cond.instanceMethod M'.1 ∈ zk_tb ∧ Cond.selects C M'.1 M'.1 ∈ zk_tb) (hok : zk_ok ci C T N) (hk : k < S.1) (hly : S.2.1 k = some (.inr ci)) (hM : zk_X S d' M' (.ref k :: as) mem (some (.long v), mem')) (hdd : d' < d) (hcat : (st.map fun v => v.category).sum ≤ 8) (kk : zk_J S d M Z (pc + 3) lv (.long v :: st) mem') : zk_J S d M Z pc lv (as.reverse ++ .ref k :: st) mem := zk_callV M' k ci as hd hL hlk hok hk hly hM hdd hcat kk
theorem zk_callVv (M' : zkY) (k ci : Nat) (as : List Value) {C : String} {T : u_T} {N : Nat} {d' idx : Nat} (hd : decode M.2.1 pc = .ok (.invokevirtual idx, 3)) (hL : zk_lk M' as.length) (hlk : Cond.methodLink M.1.cls idx M'.1 ∈ zk_tb ∧ Cond.instanceMethod M'.1 ∈ zk_tb ∧ Cond.selects C M'.1 M'.1 ∈ zk_tb) (hok : zk_ok ci C T N) (hk : k < S.1) (hly : S.2.1 k = some (.inr ci)) (hM : zk_X S d' M' (.ref k :: as) mem (none, mem')) (hdd : d' < d) (hcat : (st.map fun v => v.category).sum ≤ 8) (kk : zk_J S d M Z (pc + 3) lv st mem') : zk_J S d M Z pc lv (as.reverse ++ .ref k :: st) mem := zk_callV M' k ci as hd hL hlk hok hk hly hM hdd hcat kk
end
def zk_cpl (mem : zkM) (k0 k1 n : Nat) : zkM := (mem.1, fun a b => if a = k1 ∧ b < n then mem.2 k0 b else mem.2 a b)
theorem zk_cpl_off {mem : zkM} {k0 k1 n j : Nat} (h : j ≠ k1) : (zk_cpl mem k0 k1 n).2 j = mem.2 j := by
  funext b
  simp [zk_cpl, h]
theorem zk_cpl_on {mem : zkM} {k0 k1 n : Nat} : (zk_cpl mem k0 k1 n).2 k1 = va_cpy (mem.2 k0) (mem.2 k1) 0 0 n := by
  funext b
  simp [zk_cpl, va_cpy]
theorem zk_copyL {S : zkS} {d : Nat} {M : zkY} {Z : zkZ} {pc : Nat} {lv : List (Option Value)} {st : List Value} {mem mem' : zkM} (k0 k1 n0 n1 N : Nat) {idx : Nat} {n : Int32} (hd : decode M.2.1 pc = .ok (.invokestatic idx, 3)) (hlk : Cond.methodLink M.1.cls idx arraycopyName ∈ zk_tb) (hw : Cond.native arraycopyName ∈ zk_tb ∧ Cond.static arraycopyName ∈ zk_tb ∧ Cond.initialized "java/lang/System" ∈ zk_tb) (hk0 : k0 < S.1) (hk1 : k1 < S.1) (hl0 : S.2.1 k0 = some (.inl (n0, 2))) (hl1 : S.2.1 k1 = some (.inl (n1, 2))) (h3 : ¬ n < 0) (hN : n.toNatClampNeg = N) (h4 : N ≤ n0) (h5 : N ≤ n1) (hcat : (st.map fun v => v.category).sum ≤ 8) (e : zk_cpl mem k0 k1 N = mem') (kk : zk_J S d M Z (pc + 3) lv st mem') : zk_J S d M Z pc lv (.int n :: .int 0 :: .ref k1 :: .int 0 :: .ref k0 :: st) mem := by
  subst e
  have h0 : (0 : Int32).toNatClampNeg = 0 := by decide
  intro p l e s m args below meth c D α κ A H locs ls hF hP hD hS hl
  refine va_copyl hF.1 hF.2.1 (hF.2.2.1.trans hl.1.symm) hF.2.2.2.2.2.1 (hF.ts hlk) (hF.ts hw.1) (hF.ts hw.2.1) (hF.ts hw.2.2) hF.2.2.2.2.2.2.2.1 hP hD hS k0 k1 2 2 (n0 := n0) (n1 := n1) (f := mem.2 k0) (g := mem.2 k1) (ty := .long) (by rw [zk_w_get hk0, zk_cell_arr hl0]; rfl) (by rw [zk_w_get hk1, zk_cell_arr hl1]; rfl) rfl rfl rfl (by decide) (by decide) h3 (by rw [h0, hN]; omega) (by rw [h0, hN]; omega) (fun _ _ => rfl) (by show 1 ≤ d + 1; omega) ?_ hd (fun H1 locs1 hP1 hD1 hS1 => ?_)
  · rw [zk_cat]
    have h7 : nativeFrameWords "java/lang/System" "arraycopy" 5 = 7 := by decide +kernel
    rw [h7]
    show _ ≤ 64 * d + 64
    omega
  · rw [h0, hN] at hP1 hD1
    have he := zk_put_arr (S := S) (α := α) (κ := κ) (mem := mem) (mem' := zk_cpl mem k0 k1 N) hl1 (fun j hj => rfl) (fun j hj => zk_cpl_off hj) rfl
    unfold zk_arr at he
    simp only [zk_cpl_on] at he
    rw [he] at hP1 hD1
    exact kk p l e s m args below meth c D α κ A H1 locs1 ls hF hP1 hD1 hS1 hl
theorem zk_fb (b : Bool) : fits .boolean (.int (zk_b b)) = true := by cases b <;> rfl
def zk_max (x y : Int32) : Int32 := if x < y then y else x
def zk_min (x y : Int32) : Int32 := if y < x then y else x
def zk_abs (x : Int32) : Int32 := if 0 ≤ x then x else 0 - x
section
variable {S : zkS} {d : Nat} {M : zkY} {Z : zkZ} {pc : Nat} {lv : List (Option Value)} {st : List Value} {mem : zkM}
theorem zk_hloc {α : Nat → Nat} {st : List Value} {d : Nat} (hcat : (st.map fun v => v.category).sum ≤ 8) : ((st.map (zk_cv α)).map fun v => v.category).sum + 13 ≤ (zk_room d).locals := by
  rw [zk_cat]
  show _ ≤ 64 * d + 64
  omega
theorem zk_mmax {idx : Nat} {x y : Int32} (hd : decode M.2.1 pc = .ok (.invokestatic idx, 3)) (hlk : Cond.methodLink M.1.cls idx Lib.Math.max.name ∈ zk_tb) (hw : Cond.static Lib.Math.max.name ∈ zk_tb ∧ Cond.initialized "java/lang/Math" ∈ zk_tb ∧ Cond.code Lib.Math.max.name Lib.Math.max.code 2 (some .int) ∈ zk_tb) (hcat : (st.map fun v => v.category).sum ≤ 8) (kk : zk_J S d M Z (pc + 3) lv (.int (zk_max x y) :: st) mem) : zk_J S d M Z pc lv (.int y :: .int x :: st) mem := by
  intro p l e s m args below meth c D α κ A H locs ls hF hP hD hS hl
  exact va_mmax hF.1 hF.2.1 (hF.2.2.1.trans hl.1.symm) hF.2.2.2.2.2.1 (hF.ts hlk) (hF.ts hw.1) (hF.ts hw.2.1) (hF.ts hw.2.2) (by show 1 ≤ d + 1; omega) (zk_hloc hcat) (Nat.le_refl _) (Nat.le_refl _) hd (kk p l e s m args below meth c D α κ A H locs ls hF hP hD hS hl)
theorem zk_mmin {idx : Nat} {x y : Int32} (hd : decode M.2.1 pc = .ok (.invokestatic idx, 3)) (hlk : Cond.methodLink M.1.cls idx Lib.Math.min.name ∈ zk_tb) (hw : Cond.static Lib.Math.min.name ∈ zk_tb ∧ Cond.initialized "java/lang/Math" ∈ zk_tb ∧ Cond.code Lib.Math.min.name Lib.Math.min.code 2 (some .int) ∈ zk_tb) (hcat : (st.map fun v => v.category).sum ≤ 8) (kk : zk_J S d M Z (pc + 3) lv (.int (zk_min x y) :: st) mem) : zk_J S d M Z pc lv (.int y :: .int x :: st) mem := by
  intro p l e s m args below meth c D α κ A H locs ls hF hP hD hS hl
  exact va_mmin hF.1 hF.2.1 (hF.2.2.1.trans hl.1.symm) hF.2.2.2.2.2.1 (hF.ts hlk) (hF.ts hw.1) (hF.ts hw.2.1) (hF.ts hw.2.2) (by show 1 ≤ d + 1; omega) (zk_hloc hcat) (Nat.le_refl _) (Nat.le_refl _) hd (kk p l e s m args below meth c D α κ A H locs ls hF hP hD hS hl)
theorem zk_mabs {idx : Nat} {x : Int32} (hd : decode M.2.1 pc = .ok (.invokestatic idx, 3)) (hlk : Cond.methodLink M.1.cls idx Lib.Math.abs.name ∈ zk_tb) (hw : Cond.static Lib.Math.abs.name ∈ zk_tb ∧ Cond.initialized "java/lang/Math" ∈ zk_tb ∧ Cond.code Lib.Math.abs.name Lib.Math.abs.code 1 (some .int) ∈ zk_tb) (hcat : (st.map fun v => v.category).sum ≤ 8) (kk : zk_J S d M Z (pc + 3) lv (.int (zk_abs x) :: st) mem) : zk_J S d M Z pc lv (.int x :: st) mem := by
  intro p l e s m args below meth c D α κ A H locs ls hF hP hD hS hl
  exact va_mabs hF.1 hF.2.1 (hF.2.2.1.trans hl.1.symm) hF.2.2.2.2.2.1 (hF.ts hlk) (hF.ts hw.1) (hF.ts hw.2.1) (hF.ts hw.2.2) (by show 1 ≤ d + 1; omega) (zk_hloc hcat) (Nat.le_refl _) (Nat.le_refl _) hd (kk p l e s m args below meth c D α κ A H locs ls hF hP hD hS hl)
end
theorem zk_rIw {a : Int32} {m : zkM} {z : Int32 × zkM} (h : (a, m) = z) : ((some (Value.int a), m) : Option Value × zkM) = (some (.int z.1), z.2) := by subst h; rfl
theorem zk_rZw {a : Bool} {m : zkM} {z : Bool × zkM} (h : (a, m) = z) : ((some (Value.int (zk_b a)), m) : Option Value × zkM) = (some (.int (zk_b z.1)), z.2) := by subst h; rfl
theorem zk_rLw {a : Int64} {m : zkM} {z : Int64 × zkM} (h : (a, m) = z) : ((some (Value.long a), m) : Option Value × zkM) = (some (.long z.1), z.2) := by subst h; rfl
theorem zk_rVw {m z : zkM} (h : m = z) : ((none, m) : Option Value × zkM) = (none, z) := by subst h; rfl
theorem zk_rI {a z : Int32} {m : zkM} (h : a = z) : ((some (Value.int a), m) : Option Value × zkM) = (some (.int z), m) := by subst h; rfl
theorem zk_rZ {a z : Bool} {m : zkM} (h : a = z) : ((some (Value.int (zk_b a)), m) : Option Value × zkM) = (some (.int (zk_b z)), m) := by subst h; rfl
theorem zk_rL {a z : Int64} {m : zkM} (h : a = z) : ((some (Value.long a), m) : Option Value × zkM) = (some (.long z), m) := by subst h; rfl
theorem zk_rV {a z : Unit} {m : zkM} (_h : a = z) : ((none, m) : Option Value × zkM) = (none, m) := rfl
