/-! ===== BEGIN words of one list among another's, by their places ===== -/
theorem goodIn_r {big : List Cond} (ws : List Cond) (ps : List Nat) (hp : ws = ps.filterMap (fun i => big[i]?)) (h : ws.all goodWord = true) : GoodIn big ws := by
  intro w hw
  have h1 := List.all_eq_true.mp h w hw
  rw [hp] at hw
  obtain ⟨i, -, hi⟩ := List.mem_filterMap.mp hw
  have hm : w ∈ big := by first | exact List.mem_of_getElem? hi | exact List.getElem?_mem hi
  exact ⟨hm, good_of_word h1⟩
theorem goodIn_app {big a b : List Cond} (ha : GoodIn big a) (hb : GoodIn big b) : GoodIn big (a ++ b) := fun w h => (List.mem_append.mp h).elim (ha w) (hb w)
theorem goodIn_ca {big a b : List Cond} {c : Cond} (ha : GoodIn big (c :: a)) (hb : GoodIn big b) : GoodIn big (c :: (a ++ b)) := fun w h => (List.mem_cons.mp h).elim (fun e => ha w (List.mem_cons.mpr (Or.inl e))) (fun h => (List.mem_append.mp h).elim (fun h => ha w (List.mem_cons.mpr (Or.inr h))) (hb w))
theorem goodIn_sub {big ws : List Cond} (hm : ∀ w ∈ ws, w ∈ big) (h : ws.all goodWord = true) : GoodIn big ws := fun w hw => ⟨hm w hw, good_of_word (List.all_eq_true.mp h w hw)⟩
/-! ===== END ===== -/

/-! ===== BEGIN new T[n][m]: the outer array a place, the inner ones among the pooled ===== -/
/-- f, but v at every address of l -/
def vr_up {α : Type} (f : Nat → α) (l : List Nat) (v : α) : Nat → α := fun a => if a ∈ l then v else f a
theorem vr_up_in {α : Type} {f : Nat → α} {l : List Nat} {v : α} {a : Nat} (h : a ∈ l) : vr_up f l v a = v := if_pos h
theorem vr_up_ne {α : Type} {f : Nat → α} {l : List Nat} {v : α} {a : Nat} (h : a ∉ l) : vr_up f l v a = f a := if_neg h
theorem vr_rows {L l : List Nat} {f : Nat → va_E} {e : va_E} (h : ∀ a, a ∈ l → a ∉ L) : va_pl L f ++ l.map (fun a => (a, e)) = va_pl (L ++ l) (vr_up f l e) := by
  unfold va_pl
  rw [List.map_append]
  congr 1
  · apply List.map_congr_left
    intro a ha
    rw [vr_up_ne (fun q => h a q ha)]
  · apply List.map_congr_left
    intro a ha
    rw [vr_up_in ha]
theorem vr_lay {X rows : va_W} {x : Nat × va_E} {pl : va_W} {D : va_G} {cl : List vw_C} {H : Heap} (hP : va_P D cl (((X ++ pl) ++ [x]) ++ rows) H) : va_P D cl ((X ++ [x]) ++ (pl ++ rows)) H := by
  rw [List.append_assoc (X ++ pl)] at hP
  have h := va_P.swap hP
  rw [← List.append_assoc X] at h
  have h2 := va_P.swap h
  rw [List.append_assoc (X ++ [x])] at h2
  exact h2
theorem vr_layD {X rows : va_W} {x : Nat × va_E} {pl : va_W} {A : Nat → Prop} (hD : va_D A (((X ++ pl) ++ [x]) ++ rows)) : va_D A ((X ++ [x]) ++ (pl ++ rows)) := by
  rw [List.append_assoc (X ++ pl)] at hD
  have h := va_D.swap hD
  rw [← List.append_assoc X] at h
  have h2 := va_D.swap h
  rw [List.append_assoc (X ++ [x])] at h2
  exact h2
theorem vr_outer (c : ClassId) (N h0 : Nat) : ∀ i : Nat, Jvm.Free.Multi.outerC c N h0 i = arrV c N (fun j => va_rf (if j < i then some (h0 + 1 + j) else none))
  | 0 => by
    show ({ cls := c, slots := Array.replicate N .null, vm := .none } : Cell) = _
    rw [arrV_new]
    refine congrArg (arrV c N) (funext fun j => ?_)
    simp [va_rf]
  | i + 1 => by
    show (Jvm.Free.Multi.outerC c N h0 i).setSlot i (.ref (h0 + 1 + i)) = _
    rw [vr_outer c N h0 i, arrV_store]
    refine congrArg (arrV c N) (funext fun j => ?_)
    by_cases e : j = i
    · subst e
      simp [updV, va_rf]
    · by_cases h : j < i
      · simp [updV, e, h, Nat.lt_succ_of_lt h]
      · simp [updV, e, h, show ¬ j < i + 1 by omega]
section VGM
variable {p : Program} {l : Launch} {e : Env} {R : Room} {s : State} {m : MethodId} {args : Array Value} {below : List Frame} {meth : Method} {c : Code} {H : Heap} {locs : List Loc} {cells slots : Nat} {Q : State → Prop}
variable {cc : ByteArray} {pc : Nat} {ls : Array Slot} {rest : List Value} {D : va_G} {cl : List vw_C} {A : Nat → Prop} {a : Nat} {tys : List (ClassId × FieldType)} {ws : va_W} {H0 : Heap}
theorem va_mna {X : va_W} {L : List Nat} {f : Nat → va_E} {cc : ByteArray} (hexec : p.tables.exec = Jvm.exec) (hb : c.code = cc) {own : String} {index : Nat} {ty : FieldType} {cy : ClassId} (hown : s.vm.findClass own = some m.cls) (hclink : (Cond.classLink own index ("[" ++ (FieldType.array ty).toString)).before args s = true) (hover : (Cond.arrayOver (.array ty)).before args s = true) (harr : (Cond.arrayClass ty).before args s = true) (hcy : s.vm.findClass (FieldType.array ty).toString = some cy)
    (hK : va_K D cl tys s) (hP : va_P D cl (X ++ va_pl L f) H) (hD : va_D A (X ++ va_pl L f)) (hS : va_S A H0 H locs) (hA : ∀ q, H0.size ≤ q → A q) {n k : Int32} {N' K' : Nat} {z : vp_A} (hn : ¬ n < 0) (hk : ¬ k < 0) (hN : n.toNatClampNeg = N') (hM : k.toNatClampNeg = K')
    (hb1 : N' * 4 ≤ 536870912) (hb2 : K' * componentBytes ty ≤ 536870912) (hb3 : K' ≤ 536870912) (hdf : fits ty (defaultValue ty) = true) (hdd : (defaultValue ty).isDefault = true) (hcells : cells + (1 + N') ≤ R.cells) (hslots : slots + (N' + N' * K') ≤ R.slots) (hz : ∀ c : ClassId, Jvm.Free.Multi.innerC c K' (defaultValue ty) = vp_cell c z) (hdg : decode cc pc = .ok (.multianewarray index 2, 4))
    (kk : ∀ (q : Nat) (r : Nat → Nat) (cA : ClassId) (H1 : Heap), (∀ i j : Nat, i < N' → j < N' → r i = r j → i = j) → (∀ i : Nat, i < N' → r i ∉ L) → va_K D cl (tys ++ [(cA, .array ty)]) s →
      va_P D cl ((X ++ [(q, .inl (cA, N', .inr (.inr (.inr (.inr (fun i => if i < N' then some (r i) else none))))))]) ++ va_pl (L ++ (List.range N').map r) (vr_up f ((List.range N').map r) (.inl (cy, z)))) H1 → va_D A ((X ++ [(q, .inl (cA, N', .inr (.inr (.inr (.inr (fun i => if i < N' then some (r i) else none))))))]) ++ va_pl (L ++ (List.range N').map r) (vr_up f ((List.range N').map r) (.inl (cy, z)))) → va_S A H0 H1 locs →
      W p l e R s m args below meth c H1 locs (cells + 1 + N') (slots + N' + N' * K') Q (F0 m (pc + 4) ls (.ref q :: rest))) : W p l e R s m args below meth c H locs cells slots Q (F0 m pc ls (.int k :: .int n :: rest)) := by
  subst hN
  subst hM
  intro T hT Xs
  obtain ⟨vm₁, cA, comp, -, fA, fC, hO, -, X', step⟩ := Xs.multianewarray2F hexec hown hclink hover harr (g := F0 m pc ls (.int k :: .int n :: rest)) rfl (by rw [hb]; exact hdg) rfl hn hk hb1 hb2 hb3 hdf hdd hcells hslots
  have ec : some cy = some comp := hcy.symm.trans fC
  cases ec
  generalize hF : Jvm.Free.Multi.fill (T.setVm vm₁) cA cy n.toNatClampNeg k.toNatClampNeg (defaultValue ty) n.toNatClampNeg = F at X' step
  have hTh : (T.setVm vm₁).heap = H := hT
  obtain ⟨f1, f2, -, -⟩ := Jvm.Free.Multi.fill_facts (T.setVm vm₁) cA cy n.toNatClampNeg k.toNatClampNeg (defaultValue ty) n.toNatClampNeg
  rw [hF, hTh] at f1 f2
  have hold : ∀ x : Nat, x < H.size → F.heap[x]? = H[x]? := fun x hx => by
    have := Jvm.Free.Multi.fill_old (T.setVm vm₁) cA cy n.toNatClampNeg k.toNatClampNeg (defaultValue ty) (a := x) (by rw [hTh]; exact hx) n.toNatClampNeg
    rw [hF, hTh] at this
    exact this
  have hrow : ∀ j : Nat, j < n.toNatClampNeg → F.heap[H.size + 1 + j]? = some (vp_cell cy z) := fun j hj => by
    have := Jvm.Free.Multi.fill_inner (T.setVm vm₁) cA cy n.toNatClampNeg k.toNatClampNeg (defaultValue ty) n.toNatClampNeg j hj
    rw [hF, hTh, hz] at this
    exact this
  have hout : Jvm.Free.Multi.outerC cA n.toNatClampNeg H.size n.toNatClampNeg = vp_cell cA (n.toNatClampNeg, .inr (.inr (.inr (.inr (fun i => if i < n.toNatClampNeg then some (H.size + 1 + i) else none))))) := by
    rw [vp_cell_q]
    exact vr_outer cA n.toNatClampNeg H.size n.toNatClampNeg
  rw [hout] at f2
  have hlt : ∀ a, a ∈ L → a < H.size := fun a ha => by
    obtain ⟨k9, hk9⟩ := va_pl_get (X := X) (f := f) ha
    exact (hP k9 _ hk9).lt
  have hnl : ∀ i : Nat, i < n.toNatClampNeg → H.size + 1 + i ∉ L := fun i _ h => by
    have := hlt _ h
    omega
  have hnm : ∀ a, a ∈ (List.range n.toNatClampNeg).map (fun i => H.size + 1 + i) → a ∉ L := fun a ha h => by
    obtain ⟨i, -, rfl⟩ := List.mem_map.mp ha
    have := hlt _ h
    omega
  have hP0 : va_P D cl (X ++ va_pl L f) F.heap := hP.kept (fun k9 x hx => hold x.1 ((hP k9 x hx).lt))
  have hP1 : va_P D cl ((X ++ va_pl L f) ++ [(H.size, .inl (cA, n.toNatClampNeg, .inr (.inr (.inr (.inr (fun i => if i < n.toNatClampNeg then some (H.size + 1 + i) else none))))))]) F.heap := hP0.app (fun k9 x hx => by
    have h0 : k9 < 1 := (List.getElem?_eq_some_iff.mp hx).1
    rw [show k9 = 0 by omega] at hx
    cases hx
    exact f2)
  have hP2 : va_P D cl (((X ++ va_pl L f) ++ [(H.size, .inl (cA, n.toNatClampNeg, .inr (.inr (.inr (.inr (fun i => if i < n.toNatClampNeg then some (H.size + 1 + i) else none))))))]) ++ ((List.range n.toNatClampNeg).map (fun i => H.size + 1 + i)).map (fun a => (a, .inl (cy, z)))) F.heap := hP1.app (fun k9 x hx => by
    obtain ⟨a, ha, rfl⟩ := List.mem_map.mp (List.mem_of_getElem? hx)
    obtain ⟨i, hi, rfl⟩ := List.mem_map.mp ha
    exact hrow i (List.mem_range.mp hi))
  have hD2 : va_D A (((X ++ va_pl L f) ++ [(H.size, .inl (cA, n.toNatClampNeg, .inr (.inr (.inr (.inr (fun i => if i < n.toNatClampNeg then some (H.size + 1 + i) else none))))))]) ++ ((List.range n.toNatClampNeg).map (fun i => H.size + 1 + i)).map (fun a => (a, .inl (cy, z)))) := by
    have hD1 := hD.push (e := .inl (cA, n.toNatClampNeg, .inr (.inr (.inr (.inr (fun i => if i < n.toNatClampNeg then some (H.size + 1 + i) else none)))))) hP rfl (hA _ hS.1)
    generalize hW1 : (X ++ va_pl L f) ++ [(H.size, .inl (cA, n.toNatClampNeg, .inr (.inr (.inr (.inr (fun i => if i < n.toNatClampNeg then some (H.size + 1 + i) else none))))))] = W1 at hD1 hP1 ⊢
    have hle : ∀ (k9 : Nat) (x : Nat × va_E), W1[k9]? = some x → x.1 ≤ H.size := fun k9 x hx => by
      rw [← hW1] at hx
      by_cases hl : k9 < (X ++ va_pl L f).length
      · rw [List.getElem?_append_left hl] at hx
        exact Nat.le_of_lt ((hP k9 x hx).lt)
      · rw [List.getElem?_append_right (by omega)] at hx
        have h0 : k9 - (X ++ va_pl L f).length < 1 := (List.getElem?_eq_some_iff.mp hx).1
        rw [show k9 - (X ++ va_pl L f).length = 0 by omega] at hx
        cases hx
        exact Nat.le_refl _
    have hr : ∀ (k9 : Nat) (x : Nat × va_E), (((List.range n.toNatClampNeg).map (fun i => H.size + 1 + i)).map (fun a => ((a, .inl (cy, z)) : Nat × va_E)))[k9]? = some x → x.1 = H.size + 1 + k9 := fun k9 x hx => by
      rw [List.getElem?_map, List.getElem?_map] at hx
      by_cases h9 : k9 < n.toNatClampNeg
      · rw [List.getElem?_range h9] at hx
        cases hx
        rfl
      · have hn0 : (List.range n.toNatClampNeg)[k9]? = none := List.getElem?_eq_none (by rw [List.length_range]; omega)
        rw [hn0] at hx
        cases hx
    refine ⟨fun i j x y hi hj hxy => ?_, fun k9 x hx => ?_⟩
    · by_cases h1 : i < W1.length <;> by_cases h2 : j < W1.length
      · rw [List.getElem?_append_left h1] at hi
        rw [List.getElem?_append_left h2] at hj
        exact hD1.1 i j x y hi hj hxy
      · rw [List.getElem?_append_left h1] at hi
        rw [List.getElem?_append_right (by omega)] at hj
        have := hle _ _ hi
        have := hr _ _ hj
        omega
      · rw [List.getElem?_append_right (by omega)] at hi
        rw [List.getElem?_append_left h2] at hj
        have := hle _ _ hj
        have := hr _ _ hi
        omega
      · rw [List.getElem?_append_right (by omega)] at hi hj
        have := hr _ _ hi
        have := hr _ _ hj
        omega
    · by_cases h1 : k9 < W1.length
      · rw [List.getElem?_append_left h1] at hx
        exact hD1.2 k9 x hx
      · rw [List.getElem?_append_right (by omega)] at hx
        have := hr _ _ hx
        exact hA _ (by have := hS.1; omega)
  have hAr : ArrOfT s cA (.array ty) := fun N9 z9 => by
    obtain ⟨-, k9, hk9, cm9, hkk9⟩ := (hO 0 0 0).1
    exact ⟨(fun q hq => by cases hq), k9, hk9, cm9, hkk9⟩
  have hK2 : va_K D cl (tys ++ [(cA, .array ty)]) s := ⟨hK.1, fun k9 x hx => by
    by_cases hl : k9 < tys.length
    · rw [List.getElem?_append_left hl] at hx
      exact hK.2 k9 x hx
    · rw [List.getElem?_append_right (by omega)] at hx
      have h0 : k9 - tys.length < 1 := (List.getElem?_eq_some_iff.mp hx).1
      rw [show k9 - tys.length = 0 by omega] at hx
      cases hx
      exact ⟨hAr, fA⟩⟩
  obtain ⟨t, a1, b1⟩ := kk H.size (fun i => H.size + 1 + i) cA F.heap (fun i j _ _ h => by have h9 : H.size + 1 + i = H.size + 1 + j := h; omega) hnl hK2 (by rw [← vr_rows hnm]; exact vr_lay hP2) (by rw [← vr_rows hnm]; exact vr_layD hD2) ⟨by rw [f1]; have := hS.1; omega, fun x h1 h2 => (hold x (Nat.lt_of_lt_of_le h1 hS.1)).trans (hS.2.1 x h1 h2), hS.2.2⟩ F rfl X'
  refine ⟨t, step t ?_, b1⟩
  have e : T.heap.size = H.size := by rw [hT]
  rw [e]
  exact a1
end VGM
/-! ===== END ===== -/

def RX0 : String := "TreePlanks$Album"
def TX0 : u_T := fun k => match k with
  | 0 => ("TreePlanks$Album", "rows", "[[I", true)
  | _ => ("TreePlanks$Album", "kept", "[Z", true)
def tyX0 : Nat → FieldType := fun k => match k with
  | 0 => .array (.array .int)
  | _ => .array .boolean
abbrev wsX00 : List Cond := u_ws RX0 TX0 2
theorem nmX0 : ∀ a, a < 2 → ∀ b, b < 2 → a ≠ b → (TX0 a).2.1 ≠ (TX0 b).2.1 := by decide +kernel
theorem tyX0_ok : ∀ k, k < 2 → parseFieldDescriptor (TX0 k).2.2.1 = some (tyX0 k) := by decide +kernel
abbrev cX0_init : ByteArray := prog_2_method_1_code
def yX0_init : MethodName := ⟨RX0, "<init>", "()V"⟩
abbrev cX0_paint : ByteArray := prog_2_method_2_code
def yX0_paint : MethodName := ⟨RX0, "paint", "(ILTreePlanks$Scene;)V"⟩
abbrev cX0_show : ByteArray := prog_2_method_3_code
def yX0_show : MethodName := ⟨RX0, "show", "(ILTreePlanks$Scene;)Z"⟩
abbrev cX0_lose : ByteArray := prog_2_method_4_code
def yX0_lose : MethodName := ⟨RX0, "lose", "()V"⟩
def RX1 : String := "TreePlanks$Burden"
def TX1 : u_T := fun k => match k with
  | 0 => ("TreePlanks$Burden", "load", "[I", true)
  | _ => ("TreePlanks$Burden", "bears", "[I", true)
def tyX1 : Nat → FieldType := fun k => match k with
  | 0 => .array .int
  | _ => .array .int
abbrev wsX10 : List Cond := u_ws RX1 TX1 2
theorem nmX1 : ∀ a, a < 2 → ∀ b, b < 2 → a ≠ b → (TX1 a).2.1 ≠ (TX1 b).2.1 := by decide +kernel
theorem tyX1_ok : ∀ k, k < 2 → parseFieldDescriptor (TX1 k).2.2.1 = some (tyX1 k) := by decide +kernel
abbrev cX1_init : ByteArray := prog_3_method_1_code
def yX1_init : MethodName := ⟨RX1, "<init>", "()V"⟩
abbrev cX1_empty : ByteArray := prog_3_method_2_code
def yX1_empty : MethodName := ⟨RX1, "empty", "()V"⟩
abbrev cX1_weigh : ByteArray := prog_3_method_3_code
def yX1_weigh : MethodName := ⟨RX1, "weigh", "(LTreePlanks$Tree;LTreePlanks$Scene;)V"⟩
abbrev cX1_add : ByteArray := prog_3_method_4_code
def yX1_add : MethodName := ⟨RX1, "add", "(LTreePlanks$Tree;II)V"⟩
abbrev cX1_fits : ByteArray := prog_3_method_5_code
def yX1_fits : MethodName := ⟨RX1, "fits", "(LTreePlanks$Tree;I)Z"⟩
abbrev cX1_allHold : ByteArray := prog_3_method_6_code
def yX1_allHold : MethodName := ⟨RX1, "allHold", "(LTreePlanks$Tree;LTreePlanks$Scene;)Z"⟩
abbrev cX1_firstTooLaden : ByteArray := prog_3_method_7_code
def yX1_firstTooLaden : MethodName := ⟨RX1, "firstTooLaden", "(LTreePlanks$Tree;)I"⟩
abbrev cX1_firstTooBent : ByteArray := prog_3_method_8_code
def yX1_firstTooBent : MethodName := ⟨RX1, "firstTooBent", "(LTreePlanks$Tree;)I"⟩
abbrev cX1_firstUnheld : ByteArray := prog_3_method_9_code
def yX1_firstUnheld : MethodName := ⟨RX1, "firstUnheld", "(LTreePlanks$Tree;LTreePlanks$Scene;)I"⟩
def RX2 : String := "TreePlanks$Chance"
def TX2 : u_T := fun k => match k with
  | 0 => ("TreePlanks$Chance", "ways", "[J", true)
  | _ => ("TreePlanks$Chance", "moved", "[J", true)
def tyX2 : Nat → FieldType := fun k => match k with
  | 0 => .array .long
  | _ => .array .long
abbrev wsX20 : List Cond := u_ws RX2 TX2 2
theorem nmX2 : ∀ a, a < 2 → ∀ b, b < 2 → a ≠ b → (TX2 a).2.1 ≠ (TX2 b).2.1 := by decide +kernel
theorem tyX2_ok : ∀ k, k < 2 → parseFieldDescriptor (TX2 k).2.2.1 = some (tyX2 k) := by decide +kernel
abbrev cX2_init : ByteArray := prog_4_method_1_code
def yX2_init : MethodName := ⟨RX2, "<init>", "()V"⟩
abbrev cX2_allWays : ByteArray := prog_4_method_2_code
def yX2_allWays : MethodName := ⟨RX2, "allWays", "(I)J"⟩
abbrev cX2_waysToStay : ByteArray := prog_4_method_3_code
def yX2_waysToStay : MethodName := ⟨RX2, "waysToStay", "(IIII)J"⟩
abbrev cX2_blowOnce : ByteArray := prog_4_method_4_code
def yX2_blowOnce : MethodName := ⟨RX2, "blowOnce", "(III)V"⟩
abbrev cX2_greatestShared : ByteArray := prog_4_method_5_code
def yX2_greatestShared : MethodName := ⟨RX2, "greatestShared", "(JJ)J"⟩
def RX3 : String := "TreePlanks$Forecast"
def TX3 : u_T := fun k => match k with
  | _ => ("TreePlanks$Forecast", "later", "LTreePlanks$Scene;", true)
def tyX3 : Nat → FieldType := fun k => match k with
  | _ => .object "TreePlanks$Scene"
abbrev wsX30 : List Cond := u_ws RX3 TX3 1
theorem nmX3 : ∀ a, a < 1 → ∀ b, b < 1 → a ≠ b → (TX3 a).2.1 ≠ (TX3 b).2.1 := by decide +kernel
theorem tyX3_ok : ∀ k, k < 1 → parseFieldDescriptor (TX3 k).2.2.1 = some (tyX3 k) := by decide +kernel
abbrev cX3_init : ByteArray := prog_5_method_1_code
def yX3_init : MethodName := ⟨RX3, "<init>", "()V"⟩
abbrev cX3_galesToFirstOut : ByteArray := prog_5_method_2_code
def yX3_galesToFirstOut : MethodName := ⟨RX3, "galesToFirstOut", "(LTreePlanks$Tree;LTreePlanks$Scene;I)I"⟩
abbrev cX3_endFirstOut : ByteArray := prog_5_method_3_code
def yX3_endFirstOut : MethodName := ⟨RX3, "endFirstOut", "(LTreePlanks$Tree;LTreePlanks$Scene;I)I"⟩
abbrev cX3_galesToFall : ByteArray := prog_5_method_4_code
def yX3_galesToFall : MethodName := ⟨RX3, "galesToFall", "(LTreePlanks$Tree;LTreePlanks$Scene;LTreePlanks$Burden;I)I"⟩
abbrev cX3_lostBehind : ByteArray := prog_5_method_5_code
def yX3_lostBehind : MethodName := ⟨RX3, "lostBehind", "(LTreePlanks$Tree;LTreePlanks$Scene;II)I"⟩
abbrev cX3_lostIfBolted : ByteArray := prog_5_method_6_code
def yX3_lostIfBolted : MethodName := ⟨RX3, "lostIfBolted", "(LTreePlanks$Tree;LTreePlanks$Scene;II)I"⟩
abbrev cX3_blowAndTell : ByteArray := prog_5_method_7_code
def yX3_blowAndTell : MethodName := ⟨RX3, "blowAndTell", "(LTreePlanks$Tree;II)I"⟩
def RX4 : String := "TreePlanks$Laying"
def TX4 : u_T := fun k => match k with
  | _ => ("TreePlanks$Laying", "ways", "[I", true)
def tyX4 : Nat → FieldType := fun k => match k with
  | _ => .array .int
abbrev wsX40 : List Cond := u_ws RX4 TX4 1
theorem nmX4 : ∀ a, a < 1 → ∀ b, b < 1 → a ≠ b → (TX4 a).2.1 ≠ (TX4 b).2.1 := by decide +kernel
theorem tyX4_ok : ∀ k, k < 1 → parseFieldDescriptor (TX4 k).2.2.1 = some (tyX4 k) := by decide +kernel
abbrev cX4_init : ByteArray := prog_6_method_1_code
def yX4_init : MethodName := ⟨RX4, "<init>", "()V"⟩
abbrev cX4_howMany : ByteArray := prog_6_method_2_code
def yX4_howMany : MethodName := ⟨RX4, "howMany", "(LTreePlanks$Tree;)I"⟩
abbrev cX4_ofFirst : ByteArray := prog_6_method_3_code
def yX4_ofFirst : MethodName := ⟨RX4, "ofFirst", "(LTreePlanks$Tree;I)I"⟩
abbrev cX4_neverLaid : ByteArray := prog_6_method_4_code
def yX4_neverLaid : MethodName := ⟨RX4, "neverLaid", "(LTreePlanks$Tree;)I"⟩
abbrev cX4_leastNext : ByteArray := prog_6_method_5_code
def yX4_leastNext : MethodName := ⟨RX4, "leastNext", "(LTreePlanks$Tree;I)I"⟩
abbrev cX4_canFollow : ByteArray := prog_6_method_6_code
def yX4_canFollow : MethodName := ⟨RX4, "canFollow", "(LTreePlanks$Tree;III)Z"⟩
abbrev cX4_reachedBy : ByteArray := prog_6_method_7_code
def yX4_reachedBy : MethodName := ⟨RX4, "reachedBy", "(LTreePlanks$Tree;I)I"⟩
def RX5 : String := "TreePlanks$Past"
def TX5 : u_T := fun k => match k with
  | 0 => ("TreePlanks$Past", "rows", "[[I", true)
  | 1 => ("TreePlanks$Past", "known", "I", false)
  | _ => ("TreePlanks$Past", "next", "I", false)
def tyX5 : Nat → FieldType := fun k => match k with
  | 0 => .array (.array .int)
  | 1 => .int
  | _ => .int
abbrev wsX50 : List Cond := u_ws RX5 TX5 3
theorem nmX5 : ∀ a, a < 3 → ∀ b, b < 3 → a ≠ b → (TX5 a).2.1 ≠ (TX5 b).2.1 := by decide +kernel
theorem tyX5_ok : ∀ k, k < 3 → parseFieldDescriptor (TX5 k).2.2.1 = some (tyX5 k) := by decide +kernel
abbrev cX5_init : ByteArray := prog_7_method_1_code
def yX5_init : MethodName := ⟨RX5, "<init>", "()V"⟩
abbrev cX5_remember : ByteArray := prog_7_method_2_code
def yX5_remember : MethodName := ⟨RX5, "remember", "(LTreePlanks$Scene;)V"⟩
abbrev cX5_takeBack : ByteArray := prog_7_method_3_code
def yX5_takeBack : MethodName := ⟨RX5, "takeBack", "(LTreePlanks$Scene;)Z"⟩
abbrev cX5_lose : ByteArray := prog_7_method_4_code
def yX5_lose : MethodName := ⟨RX5, "lose", "()V"⟩
def RX6 : String := "TreePlanks$Planner"
def TX6 : u_T := fun k => match k with
  | 0 => ("TreePlanks$Planner", "burden", "LTreePlanks$Burden;", true)
  | 1 => ("TreePlanks$Planner", "worth", "[I", true)
  | 2 => ("TreePlanks$Planner", "hope", "[I", true)
  | 3 => ("TreePlanks$Planner", "row", "[I", true)
  | 4 => ("TreePlanks$Planner", "best", "[I", true)
  | _ => ("TreePlanks$Planner", "bestSum", "I", false)
def tyX6 : Nat → FieldType := fun k => match k with
  | 0 => .object "TreePlanks$Burden"
  | 1 => .array .int
  | 2 => .array .int
  | 3 => .array .int
  | 4 => .array .int
  | _ => .int
abbrev wsX60 : List Cond := u_ws RX6 TX6 6
theorem nmX6 : ∀ a, a < 6 → ∀ b, b < 6 → a ≠ b → (TX6 a).2.1 ≠ (TX6 b).2.1 := by decide +kernel
theorem tyX6_ok : ∀ k, k < 6 → parseFieldDescriptor (TX6 k).2.2.1 = some (tyX6 k) := by decide +kernel
abbrev cX6_init : ByteArray := prog_8_method_1_code
def yX6_init : MethodName := ⟨RX6, "<init>", "()V"⟩
abbrev cX6_seekMost : ByteArray := prog_8_method_2_code
def yX6_seekMost : MethodName := ⟨RX6, "seekMost", "(LTreePlanks$Tree;LTreePlanks$Scene;)V"⟩
abbrev cX6_seekRichest : ByteArray := prog_8_method_3_code
def yX6_seekRichest : MethodName := ⟨RX6, "seekRichest", "(LTreePlanks$Tree;LTreePlanks$Scene;)V"⟩
abbrev cX6_placeOf : ByteArray := prog_8_method_4_code
def yX6_placeOf : MethodName := ⟨RX6, "placeOf", "(I)I"⟩
abbrev cX6_howMany : ByteArray := prog_8_method_5_code
def yX6_howMany : MethodName := ⟨RX6, "howMany", "(LTreePlanks$Tree;)I"⟩
abbrev cX6_howMuch : ByteArray := prog_8_method_6_code
def yX6_howMuch : MethodName := ⟨RX6, "howMuch", "(LTreePlanks$Tree;)I"⟩
abbrev cX6_seek : ByteArray := prog_8_method_7_code
def yX6_seek : MethodName := ⟨RX6, "seek", "(LTreePlanks$Tree;LTreePlanks$Scene;)V"⟩
abbrev cX6_placeFrom : ByteArray := prog_8_method_8_code
def yX6_placeFrom : MethodName := ⟨RX6, "placeFrom", "(LTreePlanks$Tree;LTreePlanks$Scene;II)V"⟩
def RX7 : String := "TreePlanks$Rot"
def TX7 : u_T := fun k => match k with
  | 0 => ("TreePlanks$Rot", "tests", "I", false)
  | 1 => ("TreePlanks$Rot", "trialPlank", "I", false)
  | 2 => ("TreePlanks$Rot", "trialLoad", "I", false)
  | 3 => ("TreePlanks$Rot", "plank", "[I", true)
  | 4 => ("TreePlanks$Rot", "load", "[I", true)
  | _ => ("TreePlanks$Rot", "broke", "[I", true)
def tyX7 : Nat → FieldType := fun k => match k with
  | 0 => .int
  | 1 => .int
  | 2 => .int
  | 3 => .array .int
  | 4 => .array .int
  | _ => .array .int
abbrev wsX70 : List Cond := u_ws RX7 TX7 6
theorem nmX7 : ∀ a, a < 6 → ∀ b, b < 6 → a ≠ b → (TX7 a).2.1 ≠ (TX7 b).2.1 := by decide +kernel
theorem tyX7_ok : ∀ k, k < 6 → parseFieldDescriptor (TX7 k).2.2.1 = some (tyX7 k) := by decide +kernel
abbrev cX7_init : ByteArray := prog_9_method_1_code
def yX7_init : MethodName := ⟨RX7, "<init>", "()V"⟩
abbrev cX7_note : ByteArray := prog_9_method_2_code
def yX7_note : MethodName := ⟨RX7, "note", "(III)Z"⟩
abbrev cX7_suspects : ByteArray := prog_9_method_3_code
def yX7_suspects : MethodName := ⟨RX7, "suspects", "(LTreePlanks$Tree;)I"⟩
abbrev cX7_agrees : ByteArray := prog_9_method_4_code
def yX7_agrees : MethodName := ⟨RX7, "agrees", "(LTreePlanks$Tree;I)Z"⟩
abbrev cX7_breaks : ByteArray := prog_9_method_5_code
def yX7_breaks : MethodName := ⟨RX7, "breaks", "(LTreePlanks$Tree;III)Z"⟩
abbrev cX7_seekTrial : ByteArray := prog_9_method_6_code
def yX7_seekTrial : MethodName := ⟨RX7, "seekTrial", "(LTreePlanks$Tree;)V"⟩
abbrev cX7_leftAtWorst : ByteArray := prog_9_method_7_code
def yX7_leftAtWorst : MethodName := ⟨RX7, "leftAtWorst", "(LTreePlanks$Tree;III)I"⟩
def RX8 : String := "TreePlanks$Scene"
def TX8 : u_T := fun k => match k with
  | _ => ("TreePlanks$Scene", "cells", "[I", true)
def tyX8 : Nat → FieldType := fun k => match k with
  | _ => .array .int
abbrev wsX80 : List Cond := u_ws RX8 TX8 1
theorem nmX8 : ∀ a, a < 1 → ∀ b, b < 1 → a ≠ b → (TX8 a).2.1 ≠ (TX8 b).2.1 := by decide +kernel
theorem tyX8_ok : ∀ k, k < 1 → parseFieldDescriptor (TX8 k).2.2.1 = some (tyX8 k) := by decide +kernel
abbrev cX8_init : ByteArray := prog_10_method_1_code
def yX8_init : MethodName := ⟨RX8, "<init>", "()V"⟩
abbrev cX8_begin : ByteArray := prog_10_method_2_code
def yX8_begin : MethodName := ⟨RX8, "begin", "(LTreePlanks$Tree;)V"⟩
abbrev cX8_copyFrom : ByteArray := prog_10_method_3_code
def yX8_copyFrom : MethodName := ⟨RX8, "copyFrom", "([I)V"⟩
abbrev cX8_copyTo : ByteArray := prog_10_method_4_code
def yX8_copyTo : MethodName := ⟨RX8, "copyTo", "([I)V"⟩
abbrev cX8_plankUnder : ByteArray := prog_10_method_5_code
def yX8_plankUnder : MethodName := ⟨RX8, "plankUnder", "(I)I"⟩
abbrev cX8_kindOf : ByteArray := prog_10_method_6_code
def yX8_kindOf : MethodName := ⟨RX8, "kindOf", "(I)I"⟩
abbrev cX8_wearOf : ByteArray := prog_10_method_7_code
def yX8_wearOf : MethodName := ⟨RX8, "wearOf", "(I)I"⟩
abbrev cX8_isOut : ByteArray := prog_10_method_8_code
def yX8_isOut : MethodName := ⟨RX8, "isOut", "(I)Z"⟩
abbrev cX8_gales : ByteArray := prog_10_method_9_code
def yX8_gales : MethodName := ⟨RX8, "gales", "()I"⟩
abbrev cX8_put : ByteArray := prog_10_method_10_code
def yX8_put : MethodName := ⟨RX8, "put", "(II)V"⟩
abbrev cX8_doAnew : ByteArray := prog_10_method_11_code
def yX8_doAnew : MethodName := ⟨RX8, "doAnew", "(II)V"⟩
abbrev cX8_blow : ByteArray := prog_10_method_12_code
def yX8_blow : MethodName := ⟨RX8, "blow", "(LTreePlanks$Tree;I)V"⟩
abbrev cX8_shake : ByteArray := prog_10_method_13_code
def yX8_shake : MethodName := ⟨RX8, "shake", "(III)V"⟩
abbrev cX8_growBark : ByteArray := prog_10_method_14_code
def yX8_growBark : MethodName := ⟨RX8, "growBark", "(LTreePlanks$Tree;)I"⟩
abbrev cX8_outs : ByteArray := prog_10_method_15_code
def yX8_outs : MethodName := ⟨RX8, "outs", "(LTreePlanks$Tree;)I"⟩
abbrev cX8_outBits : ByteArray := prog_10_method_16_code
def yX8_outBits : MethodName := ⟨RX8, "outBits", "(LTreePlanks$Tree;)I"⟩
abbrev cX8_hasBothEnds : ByteArray := prog_10_method_17_code
def yX8_hasBothEnds : MethodName := ⟨RX8, "hasBothEnds", "(I)Z"⟩
def RX9 : String := "TreePlanks$Script"
def TX9 : u_T := fun k => match k with
  | 0 => ("TreePlanks$Script", "letters", "[I", true)
  | 1 => ("TreePlanks$Script", "length", "I", false)
  | 2 => ("TreePlanks$Script", "next", "I", false)
  | 3 => ("TreePlanks$Script", "place", "I", false)
  | 4 => ("TreePlanks$Script", "token", "I", false)
  | 5 => ("TreePlanks$Script", "value", "I", false)
  | _ => ("TreePlanks$Script", "told", "[I", true)
def tyX9 : Nat → FieldType := fun k => match k with
  | 0 => .array .int
  | 1 => .int
  | 2 => .int
  | 3 => .int
  | 4 => .int
  | 5 => .int
  | _ => .array .int
abbrev wsX90 : List Cond := u_ws RX9 TX9 7
theorem nmX9 : ∀ a, a < 7 → ∀ b, b < 7 → a ≠ b → (TX9 a).2.1 ≠ (TX9 b).2.1 := by decide +kernel
theorem tyX9_ok : ∀ k, k < 7 → parseFieldDescriptor (TX9 k).2.2.1 = some (tyX9 k) := by decide +kernel
abbrev cX9_init : ByteArray := prog_11_method_1_code
def yX9_init : MethodName := ⟨RX9, "<init>", "()V"⟩
abbrev cX9_append : ByteArray := prog_11_method_2_code
def yX9_append : MethodName := ⟨RX9, "append", "(I)Z"⟩
abbrev cX9_readInto : ByteArray := prog_11_method_3_code
def yX9_readInto : MethodName := ⟨RX9, "readInto", "(LTreePlanks$Tree;)I"⟩
abbrev cX9_readItem : ByteArray := prog_11_method_4_code
def yX9_readItem : MethodName := ⟨RX9, "readItem", "(LTreePlanks$Tree;)Z"⟩
abbrev cX9_numbersOf : ByteArray := prog_11_method_5_code
def yX9_numbersOf : MethodName := ⟨RX9, "numbersOf", "(I)I"⟩
abbrev cX9_mayStand : ByteArray := prog_11_method_6_code
def yX9_mayStand : MethodName := ⟨RX9, "mayStand", "(LTreePlanks$Tree;II)Z"⟩
abbrev cX9_mayBeUnder : ByteArray := prog_11_method_7_code
def yX9_mayBeUnder : MethodName := ⟨RX9, "mayBeUnder", "(LTreePlanks$Tree;I)Z"⟩
abbrev cX9_step : ByteArray := prog_11_method_8_code
def yX9_step : MethodName := ⟨RX9, "step", "()V"⟩
abbrev cX9_stepOverNumber : ByteArray := prog_11_method_9_code
def yX9_stepOverNumber : MethodName := ⟨RX9, "stepOverNumber", "()V"⟩
abbrev cX9_isDigit : ByteArray := prog_11_method_10_code
def yX9_isDigit : MethodName := ⟨RX9, "isDigit", "(I)Z"⟩
abbrev cX9_isMark : ByteArray := prog_11_method_11_code
def yX9_isMark : MethodName := ⟨RX9, "isMark", "(I)Z"⟩
def RX10 : String := "TreePlanks$Tree"
def TX10 : u_T := fun k => match k with
  | 0 => ("TreePlanks$Tree", "boughs", "I", false)
  | 1 => ("TreePlanks$Tree", "planks", "I", false)
  | 2 => ("TreePlanks$Tree", "children", "I", false)
  | 3 => ("TreePlanks$Tree", "height", "[I", true)
  | 4 => ("TreePlanks$Tree", "strong", "[I", true)
  | 5 => ("TreePlanks$Tree", "sway", "[I", true)
  | 6 => ("TreePlanks$Tree", "holds", "[I", true)
  | 7 => ("TreePlanks$Tree", "at", "[I", true)
  | 8 => ("TreePlanks$Tree", "laid", "[I", true)
  | 9 => ("TreePlanks$Tree", "weight", "[I", true)
  | _ => ("TreePlanks$Tree", "paid", "[I", true)
def tyX10 : Nat → FieldType := fun k => match k with
  | 0 => .int
  | 1 => .int
  | 2 => .int
  | 3 => .array .int
  | 4 => .array .int
  | 5 => .array .int
  | 6 => .array .int
  | 7 => .array .int
  | 8 => .array .int
  | 9 => .array .int
  | _ => .array .int
abbrev wsX100 : List Cond := u_ws RX10 TX10 11
theorem nmX10 : ∀ a, a < 11 → ∀ b, b < 11 → a ≠ b → (TX10 a).2.1 ≠ (TX10 b).2.1 := by decide +kernel
theorem tyX10_ok : ∀ k, k < 11 → parseFieldDescriptor (TX10 k).2.2.1 = some (tyX10 k) := by decide +kernel
abbrev cX10_init : ByteArray := prog_12_method_1_code
def yX10_init : MethodName := ⟨RX10, "<init>", "()V"⟩
abbrev cX10_strip : ByteArray := prog_12_method_2_code
def yX10_strip : MethodName := ⟨RX10, "strip", "()V"⟩
abbrev cX10_hasRoomFor : ByteArray := prog_12_method_3_code
def yX10_hasRoomFor : MethodName := ⟨RX10, "hasRoomFor", "(I)Z"⟩
abbrev cX10_take : ByteArray := prog_12_method_4_code
def yX10_take : MethodName := ⟨RX10, "take", "(I[I)V"⟩
abbrev cX10_ends : ByteArray := prog_12_method_5_code
def yX10_ends : MethodName := ⟨RX10, "ends", "()I"⟩
abbrev cX10_swayAcross : ByteArray := prog_12_method_6_code
def yX10_swayAcross : MethodName := ⟨RX10, "swayAcross", "(I)I"⟩
abbrev cX10_farApart : ByteArray := prog_12_method_7_code
def yX10_farApart : MethodName := ⟨RX10, "farApart", "(II)Z"⟩
abbrev cX10_weightOf : ByteArray := prog_12_method_8_code
def yX10_weightOf : MethodName := ⟨RX10, "weightOf", "(I)I"⟩
abbrev cX10_boughsOf : ByteArray := prog_12_method_9_code
def yX10_boughsOf : MethodName := ⟨RX10, "boughsOf", "(I)I"⟩
def RX11 : String := "TreePlanks"
def TX11 : u_T := fun k => match k with
  | 0 => ("TreePlanks", "script", "LTreePlanks$Script;", true)
  | 1 => ("TreePlanks", "scene", "LTreePlanks$Scene;", true)
  | 2 => ("TreePlanks", "burden", "LTreePlanks$Burden;", true)
  | 3 => ("TreePlanks", "past", "LTreePlanks$Past;", true)
  | 4 => ("TreePlanks", "album", "LTreePlanks$Album;", true)
  | 5 => ("TreePlanks", "rot", "LTreePlanks$Rot;", true)
  | 6 => ("TreePlanks", "planner", "LTreePlanks$Planner;", true)
  | 7 => ("TreePlanks", "forecast", "LTreePlanks$Forecast;", true)
  | 8 => ("TreePlanks", "chance", "LTreePlanks$Chance;", true)
  | 9 => ("TreePlanks", "laying", "LTreePlanks$Laying;", true)
  | 10 => ("TreePlanks", "grown", "LTreePlanks$Tree;", false)
  | 11 => ("TreePlanks", "spare", "LTreePlanks$Tree;", false)
  | _ => ("TreePlanks", "bodies", "J", false)
def tyX11 : Nat → FieldType := fun k => match k with
  | 0 => .object "TreePlanks$Script"
  | 1 => .object "TreePlanks$Scene"
  | 2 => .object "TreePlanks$Burden"
  | 3 => .object "TreePlanks$Past"
  | 4 => .object "TreePlanks$Album"
  | 5 => .object "TreePlanks$Rot"
  | 6 => .object "TreePlanks$Planner"
  | 7 => .object "TreePlanks$Forecast"
  | 8 => .object "TreePlanks$Chance"
  | 9 => .object "TreePlanks$Laying"
  | 10 => .object "TreePlanks$Tree"
  | 11 => .object "TreePlanks$Tree"
  | _ => .long
abbrev wsX110 : List Cond := u_ws RX11 TX11 13
theorem nmX11 : ∀ a, a < 13 → ∀ b, b < 13 → a ≠ b → (TX11 a).2.1 ≠ (TX11 b).2.1 := by decide +kernel
theorem tyX11_ok : ∀ k, k < 13 → parseFieldDescriptor (TX11 k).2.2.1 = some (tyX11 k) := by decide +kernel
abbrev cX11_init : ByteArray := prog_1_method_1_code
def yX11_init : MethodName := ⟨RX11, "<init>", "()V"⟩
abbrev cX11_type : ByteArray := prog_1_method_2_code
def yX11_type : MethodName := ⟨RX11, "type", "(I)I"⟩
abbrev cX11_clear : ByteArray := prog_1_method_3_code
def yX11_clear : MethodName := ⟨RX11, "clear", "()I"⟩
abbrev cX11_tree : ByteArray := prog_1_method_4_code
def yX11_tree : MethodName := ⟨RX11, "tree", "()I"⟩
abbrev cX11_bough : ByteArray := prog_1_method_5_code
def yX11_bough : MethodName := ⟨RX11, "bough", "(II)I"⟩
abbrev cX11_plank : ByteArray := prog_1_method_6_code
def yX11_plank : MethodName := ⟨RX11, "plank", "(II)I"⟩
abbrev cX11_end : ByteArray := prog_1_method_7_code
def yX11_end : MethodName := ⟨RX11, "end", "(III)I"⟩
abbrev cX11_child : ByteArray := prog_1_method_8_code
def yX11_child : MethodName := ⟨RX11, "child", "(II)I"⟩
abbrev cX11_now : ByteArray := prog_1_method_9_code
def yX11_now : MethodName := ⟨RX11, "now", "(I)I"⟩
abbrev cX11_stands : ByteArray := prog_1_method_10_code
def yX11_stands : MethodName := ⟨RX11, "stands", "(II)I"⟩
abbrev cX11_gale : ByteArray := prog_1_method_11_code
def yX11_gale : MethodName := ⟨RX11, "gale", "(I)I"⟩
abbrev cX11_join : ByteArray := prog_1_method_12_code
def yX11_join : MethodName := ⟨RX11, "join", "(III)I"⟩
abbrev cX11_spring : ByteArray := prog_1_method_13_code
def yX11_spring : MethodName := ⟨RX11, "spring", "()I"⟩
abbrev cX11_undo : ByteArray := prog_1_method_14_code
def yX11_undo : MethodName := ⟨RX11, "undo", "()I"⟩
abbrev cX11_most : ByteArray := prog_1_method_15_code
def yX11_most : MethodName := ⟨RX11, "most", "(I)I"⟩
abbrev cX11_richest : ByteArray := prog_1_method_16_code
def yX11_richest : MethodName := ⟨RX11, "richest", "(I)I"⟩
abbrev cX11_firstOut : ByteArray := prog_1_method_17_code
def yX11_firstOut : MethodName := ⟨RX11, "firstOut", "(II)I"⟩
abbrev cX11_holdsFor : ByteArray := prog_1_method_18_code
def yX11_holdsFor : MethodName := ⟨RX11, "holdsFor", "(I)I"⟩
abbrev cX11_bolts : ByteArray := prog_1_method_19_code
def yX11_bolts : MethodName := ⟨RX11, "bolts", "(III)I"⟩
abbrev cX11_odds : ByteArray := prog_1_method_20_code
def yX11_odds : MethodName := ⟨RX11, "odds", "(IIII)J"⟩
abbrev cX11_orders : ByteArray := prog_1_method_21_code
def yX11_orders : MethodName := ⟨RX11, "orders", "(I)I"⟩
abbrev cX11_barred : ByteArray := prog_1_method_22_code
def yX11_barred : MethodName := ⟨RX11, "barred", "()I"⟩
abbrev cX11_hoist : ByteArray := prog_1_method_23_code
def yX11_hoist : MethodName := ⟨RX11, "hoist", "(II)I"⟩
abbrev cX11_test : ByteArray := prog_1_method_24_code
def yX11_test : MethodName := ⟨RX11, "test", "(III)I"⟩
abbrev cX11_forget : ByteArray := prog_1_method_25_code
def yX11_forget : MethodName := ⟨RX11, "forget", "()I"⟩
abbrev cX11_mayBe : ByteArray := prog_1_method_26_code
def yX11_mayBe : MethodName := ⟨RX11, "mayBe", "()I"⟩
abbrev cX11_ask : ByteArray := prog_1_method_27_code
def yX11_ask : MethodName := ⟨RX11, "ask", "(I)I"⟩
abbrev cX11_rate : ByteArray := prog_1_method_28_code
def yX11_rate : MethodName := ⟨RX11, "rate", "(II)I"⟩
abbrev cX11_keep : ByteArray := prog_1_method_29_code
def yX11_keep : MethodName := ⟨RX11, "keep", "(I)I"⟩
abbrev cX11_back : ByteArray := prog_1_method_30_code
def yX11_back : MethodName := ⟨RX11, "back", "(I)I"⟩
abbrev cX11_count : ByteArray := prog_1_method_31_code
def yX11_count : MethodName := ⟨RX11, "count", "(I)I"⟩
abbrev cX11_trace : ByteArray := prog_1_method_32_code
def yX11_trace : MethodName := ⟨RX11, "trace", "()J"⟩
abbrev cX11_within : ByteArray := prog_1_method_33_code
def yX11_within : MethodName := ⟨RX11, "within", "(III)Z"⟩
abbrev cX11_isForce : ByteArray := prog_1_method_34_code
def yX11_isForce : MethodName := ⟨RX11, "isForce", "(I)Z"⟩
abbrev cX11_isPlank : ByteArray := prog_1_method_35_code
def yX11_isPlank : MethodName := ⟨RX11, "isPlank", "(I)Z"⟩
abbrev cX11_isEnd : ByteArray := prog_1_method_36_code
def yX11_isEnd : MethodName := ⟨RX11, "isEnd", "(II)Z"⟩
abbrev cX11_isChild : ByteArray := prog_1_method_37_code
def yX11_isChild : MethodName := ⟨RX11, "isChild", "(I)Z"⟩
abbrev cX11_fewestPulling : ByteArray := prog_1_method_38_code
def yX11_fewestPulling : MethodName := ⟨RX11, "fewestPulling", "(II)I"⟩
abbrev cX11_rateChild : ByteArray := prog_1_method_39_code
def yX11_rateChild : MethodName := ⟨RX11, "rateChild", "(I)I"⟩
abbrev cX11_rateClimber : ByteArray := prog_1_method_40_code
def yX11_rateClimber : MethodName := ⟨RX11, "rateClimber", "(I)I"⟩
abbrev cX11_rateGuest : ByteArray := prog_1_method_41_code
def yX11_rateGuest : MethodName := ⟨RX11, "rateGuest", "(I)I"⟩
abbrev cX11_rateCaptain : ByteArray := prog_1_method_42_code
def yX11_rateCaptain : MethodName := ⟨RX11, "rateCaptain", "(I)I"⟩
abbrev cX11_rateNeighbour : ByteArray := prog_1_method_43_code
def yX11_rateNeighbour : MethodName := ⟨RX11, "rateNeighbour", "(I)I"⟩
abbrev cX11_rateSister : ByteArray := prog_1_method_44_code
def yX11_rateSister : MethodName := ⟨RX11, "rateSister", "(I)I"⟩
abbrev cX11_growth : ByteArray := prog_1_method_45_code
def yX11_growth : MethodName := ⟨RX11, "growth", "(III)I"⟩
abbrev cX11_givesAt : ByteArray := prog_1_method_46_code
def yX11_givesAt : MethodName := ⟨RX11, "givesAt", "(I)I"⟩
def RX12 : String := "TreePlanksModel"
def TX12 : u_T := fun k => match k with
  | 0 => ("TreePlanksModel", "boughs", "I", false)
  | 1 => ("TreePlanksModel", "bough", "[I", true)
  | 2 => ("TreePlanksModel", "planks", "I", false)
  | 3 => ("TreePlanksModel", "plank", "[I", true)
  | 4 => ("TreePlanksModel", "children", "I", false)
  | 5 => ("TreePlanksModel", "child", "[I", true)
  | 6 => ("TreePlanksModel", "st", "[I", true)
  | 7 => ("TreePlanksModel", "was", "[I", true)
  | 8 => ("TreePlanksModel", "known", "I", false)
  | 9 => ("TreePlanksModel", "images", "[I", true)
  | 10 => ("TreePlanksModel", "isKept", "[Z", true)
  | 11 => ("TreePlanksModel", "tests", "I", false)
  | 12 => ("TreePlanksModel", "test", "[I", true)
  | 13 => ("TreePlanksModel", "trace", "J", false)
  | 14 => ("TreePlanksModel", "text", "[I", true)
  | 15 => ("TreePlanksModel", "texted", "I", false)
  | 16 => ("TreePlanksModel", "cursor", "I", false)
  | 17 => ("TreePlanksModel", "start", "I", false)
  | 18 => ("TreePlanksModel", "token", "I", false)
  | 19 => ("TreePlanksModel", "number", "I", false)
  | 20 => ("TreePlanksModel", "isWrong", "Z", false)
  | 21 => ("TreePlanksModel", "saidBoughs", "I", false)
  | 22 => ("TreePlanksModel", "saidBough", "[I", true)
  | 23 => ("TreePlanksModel", "saidPlanks", "I", false)
  | 24 => ("TreePlanksModel", "saidPlank", "[I", true)
  | 25 => ("TreePlanksModel", "saidChildren", "I", false)
  | 26 => ("TreePlanksModel", "saidChild", "[I", true)
  | 27 => ("TreePlanksModel", "on", "[I", true)
  | 28 => ("TreePlanksModel", "load", "[I", true)
  | 29 => ("TreePlanksModel", "bears", "[I", true)
  | 30 => ("TreePlanksModel", "ends", "[I", true)
  | 31 => ("TreePlanksModel", "ways", "[J", true)
  | 32 => ("TreePlanksModel", "then", "[J", true)
  | _ => ("TreePlanksModel", "orders", "[I", true)
def tyX12 : Nat → FieldType := fun k => match k with
  | 0 => .int
  | 1 => .array .int
  | 2 => .int
  | 3 => .array .int
  | 4 => .int
  | 5 => .array .int
  | 6 => .array .int
  | 7 => .array .int
  | 8 => .int
  | 9 => .array .int
  | 10 => .array .boolean
  | 11 => .int
  | 12 => .array .int
  | 13 => .long
  | 14 => .array .int
  | 15 => .int
  | 16 => .int
  | 17 => .int
  | 18 => .int
  | 19 => .int
  | 20 => .boolean
  | 21 => .int
  | 22 => .array .int
  | 23 => .int
  | 24 => .array .int
  | 25 => .int
  | 26 => .array .int
  | 27 => .array .int
  | 28 => .array .int
  | 29 => .array .int
  | 30 => .array .int
  | 31 => .array .long
  | 32 => .array .long
  | _ => .array .int
abbrev wsX120 : List Cond := u_ws RX12 TX12 34
theorem nmX12 : ∀ a, a < 34 → ∀ b, b < 34 → a ≠ b → (TX12 a).2.1 ≠ (TX12 b).2.1 := by decide +kernel
theorem tyX12_ok : ∀ k, k < 34 → parseFieldDescriptor (TX12 k).2.2.1 = some (tyX12 k) := by decide +kernel
abbrev cX12_init : ByteArray := prog_14_method_1_code
def yX12_init : MethodName := ⟨RX12, "<init>", "()V"⟩
abbrev cX12_in : ByteArray := prog_14_method_3_code
def yX12_in : MethodName := ⟨RX12, "in", "(III)Z"⟩
abbrev cX12_has : ByteArray := prog_14_method_4_code
def yX12_has : MethodName := ⟨RX12, "has", "(II)Z"⟩
abbrev cX12_bits : ByteArray := prog_14_method_5_code
def yX12_bits : MethodName := ⟨RX12, "bits", "(I)I"⟩
abbrev cX12_isBough : ByteArray := prog_14_method_6_code
def yX12_isBough : MethodName := ⟨RX12, "isBough", "(I)Z"⟩
abbrev cX12_isPlank : ByteArray := prog_14_method_7_code
def yX12_isPlank : MethodName := ⟨RX12, "isPlank", "(I)Z"⟩
abbrev cX12_isChild : ByteArray := prog_14_method_8_code
def yX12_isChild : MethodName := ⟨RX12, "isChild", "(I)Z"⟩
abbrev cX12_isForce : ByteArray := prog_14_method_9_code
def yX12_isForce : MethodName := ⟨RX12, "isForce", "(I)Z"⟩
abbrev cX12_type : ByteArray := prog_14_method_10_code
def yX12_type : MethodName := ⟨RX12, "type", "(I)I"⟩
abbrev cX12_clear : ByteArray := prog_14_method_11_code
def yX12_clear : MethodName := ⟨RX12, "clear", "()I"⟩
abbrev cX12_letterAt : ByteArray := prog_14_method_12_code
def yX12_letterAt : MethodName := ⟨RX12, "letterAt", "(I)I"⟩
abbrev cX12_next : ByteArray := prog_14_method_13_code
def yX12_next : MethodName := ⟨RX12, "next", "()V"⟩
abbrev cX12_must : ByteArray := prog_14_method_14_code
def yX12_must : MethodName := ⟨RX12, "must", "(Z)V"⟩
abbrev cX12_readInto : ByteArray := prog_14_method_15_code
def yX12_readInto : MethodName := ⟨RX12, "readInto", "([IIII)I"⟩
abbrev cX12_readBough : ByteArray := prog_14_method_16_code
def yX12_readBough : MethodName := ⟨RX12, "readBough", "()V"⟩
abbrev cX12_mayJoin : ByteArray := prog_14_method_17_code
def yX12_mayJoin : MethodName := ⟨RX12, "mayJoin", "(II)Z"⟩
abbrev cX12_readPlank : ByteArray := prog_14_method_18_code
def yX12_readPlank : MethodName := ⟨RX12, "readPlank", "()V"⟩
abbrev cX12_readChild : ByteArray := prog_14_method_19_code
def yX12_readChild : MethodName := ⟨RX12, "readChild", "()V"⟩
abbrev cX12_readItem : ByteArray := prog_14_method_20_code
def yX12_readItem : MethodName := ⟨RX12, "readItem", "()V"⟩
abbrev cX12_tree : ByteArray := prog_14_method_21_code
def yX12_tree : MethodName := ⟨RX12, "tree", "()I"⟩
abbrev cX12_layNow : ByteArray := prog_14_method_22_code
def yX12_layNow : MethodName := ⟨RX12, "layNow", "()V"⟩
abbrev cX12_layLoads : ByteArray := prog_14_method_23_code
def yX12_layLoads : MethodName := ⟨RX12, "layLoads", "()V"⟩
abbrev cX12_layLoadsNow : ByteArray := prog_14_method_24_code
def yX12_layLoadsNow : MethodName := ⟨RX12, "layLoadsNow", "()V"⟩
abbrev cX12_layEnds : ByteArray := prog_14_method_25_code
def yX12_layEnds : MethodName := ⟨RX12, "layEnds", "()V"⟩
abbrev cX12_firstHeavy : ByteArray := prog_14_method_26_code
def yX12_firstHeavy : MethodName := ⟨RX12, "firstHeavy", "()I"⟩
abbrev cX12_firstWeak : ByteArray := prog_14_method_27_code
def yX12_firstWeak : MethodName := ⟨RX12, "firstWeak", "()I"⟩
abbrev cX12_firstLost : ByteArray := prog_14_method_28_code
def yX12_firstLost : MethodName := ⟨RX12, "firstLost", "()I"⟩
abbrev cX12_holdsAll : ByteArray := prog_14_method_29_code
def yX12_holdsAll : MethodName := ⟨RX12, "holdsAll", "()Z"⟩
abbrev cX12_outs : ByteArray := prog_14_method_30_code
def yX12_outs : MethodName := ⟨RX12, "outs", "([II)I"⟩
abbrev cX12_differ : ByteArray := prog_14_method_31_code
def yX12_differ : MethodName := ⟨RX12, "differ", "(I)I"⟩
abbrev cX12_givesAt : ByteArray := prog_14_method_32_code
def yX12_givesAt : MethodName := ⟨RX12, "givesAt", "(I)I"⟩
abbrev cX12_wears : ByteArray := prog_14_method_33_code
def yX12_wears : MethodName := ⟨RX12, "wears", "(III)I"⟩
abbrev cX12_blows : ByteArray := prog_14_method_34_code
def yX12_blows : MethodName := ⟨RX12, "blows", "([IIII)V"⟩
abbrev cX12_blowsAll : ByteArray := prog_14_method_35_code
def yX12_blowsAll : MethodName := ⟨RX12, "blowsAll", "([III)V"⟩
abbrev cX12_bough : ByteArray := prog_14_method_36_code
def yX12_bough : MethodName := ⟨RX12, "bough", "(II)I"⟩
abbrev cX12_plank : ByteArray := prog_14_method_37_code
def yX12_plank : MethodName := ⟨RX12, "plank", "(II)I"⟩
abbrev cX12_endAt : ByteArray := prog_14_method_38_code
def yX12_endAt : MethodName := ⟨RX12, "endAt", "(II)I"⟩
abbrev cX12_end : ByteArray := prog_14_method_39_code
def yX12_end : MethodName := ⟨RX12, "end", "(III)I"⟩
abbrev cX12_child : ByteArray := prog_14_method_40_code
def yX12_child : MethodName := ⟨RX12, "child", "(II)I"⟩
abbrev cX12_now : ByteArray := prog_14_method_41_code
def yX12_now : MethodName := ⟨RX12, "now", "(I)I"⟩
abbrev cX12_remembers : ByteArray := prog_14_method_42_code
def yX12_remembers : MethodName := ⟨RX12, "remembers", "()V"⟩
abbrev cX12_stands : ByteArray := prog_14_method_43_code
def yX12_stands : MethodName := ⟨RX12, "stands", "(II)I"⟩
abbrev cX12_gale : ByteArray := prog_14_method_44_code
def yX12_gale : MethodName := ⟨RX12, "gale", "(I)I"⟩
abbrev cX12_join : ByteArray := prog_14_method_45_code
def yX12_join : MethodName := ⟨RX12, "join", "(III)I"⟩
abbrev cX12_spring : ByteArray := prog_14_method_46_code
def yX12_spring : MethodName := ⟨RX12, "spring", "()I"⟩
abbrev cX12_undo : ByteArray := prog_14_method_47_code
def yX12_undo : MethodName := ⟨RX12, "undo", "()I"⟩
abbrev cX12_lays : ByteArray := prog_14_method_48_code
def yX12_lays : MethodName := ⟨RX12, "lays", "(I)V"⟩
abbrev cX12_standing : ByteArray := prog_14_method_49_code
def yX12_standing : MethodName := ⟨RX12, "standing", "()I"⟩
abbrev cX12_paid : ByteArray := prog_14_method_50_code
def yX12_paid : MethodName := ⟨RX12, "paid", "()I"⟩
abbrev cX12_worth : ByteArray := prog_14_method_51_code
def yX12_worth : MethodName := ⟨RX12, "worth", "(Z)I"⟩
abbrev cX12_bestRow : ByteArray := prog_14_method_52_code
def yX12_bestRow : MethodName := ⟨RX12, "bestRow", "(Z)I"⟩
abbrev cX12_tells : ByteArray := prog_14_method_53_code
def yX12_tells : MethodName := ⟨RX12, "tells", "(IZ)I"⟩
abbrev cX12_most : ByteArray := prog_14_method_54_code
def yX12_most : MethodName := ⟨RX12, "most", "(I)I"⟩
abbrev cX12_richest : ByteArray := prog_14_method_55_code
def yX12_richest : MethodName := ⟨RX12, "richest", "(I)I"⟩
abbrev cX12_firstNew : ByteArray := prog_14_method_56_code
def yX12_firstNew : MethodName := ⟨RX12, "firstNew", "()I"⟩
abbrev cX12_firstOut : ByteArray := prog_14_method_57_code
def yX12_firstOut : MethodName := ⟨RX12, "firstOut", "(II)I"⟩
abbrev cX12_holdsFor : ByteArray := prog_14_method_58_code
def yX12_holdsFor : MethodName := ⟨RX12, "holdsFor", "(I)I"⟩
abbrev cX12_outSet : ByteArray := prog_14_method_59_code
def yX12_outSet : MethodName := ⟨RX12, "outSet", "()I"⟩
abbrev cX12_bolts : ByteArray := prog_14_method_60_code
def yX12_bolts : MethodName := ⟨RX12, "bolts", "(III)I"⟩
abbrev cX12_stays : ByteArray := prog_14_method_61_code
def yX12_stays : MethodName := ⟨RX12, "stays", "(IIII)J"⟩
abbrev cX12_odds : ByteArray := prog_14_method_62_code
def yX12_odds : MethodName := ⟨RX12, "odds", "(IIII)J"⟩
abbrev cX12_mayLay : ByteArray := prog_14_method_63_code
def yX12_mayLay : MethodName := ⟨RX12, "mayLay", "(II)Z"⟩
abbrev cX12_findOrders : ByteArray := prog_14_method_64_code
def yX12_findOrders : MethodName := ⟨RX12, "findOrders", "()V"⟩
abbrev cX12_orders : ByteArray := prog_14_method_65_code
def yX12_orders : MethodName := ⟨RX12, "orders", "(I)I"⟩
abbrev cX12_barred : ByteArray := prog_14_method_66_code
def yX12_barred : MethodName := ⟨RX12, "barred", "()I"⟩
abbrev cX12_hoist : ByteArray := prog_14_method_67_code
def yX12_hoist : MethodName := ⟨RX12, "hoist", "(II)I"⟩
abbrev cX12_test : ByteArray := prog_14_method_68_code
def yX12_test : MethodName := ⟨RX12, "test", "(III)I"⟩
abbrev cX12_forget : ByteArray := prog_14_method_69_code
def yX12_forget : MethodName := ⟨RX12, "forget", "()I"⟩
abbrev cX12_breaks : ByteArray := prog_14_method_70_code
def yX12_breaks : MethodName := ⟨RX12, "breaks", "(III)Z"⟩
abbrev cX12_mayBeNow : ByteArray := prog_14_method_71_code
def yX12_mayBeNow : MethodName := ⟨RX12, "mayBeNow", "()I"⟩
abbrev cX12_mayBe : ByteArray := prog_14_method_72_code
def yX12_mayBe : MethodName := ⟨RX12, "mayBe", "()I"⟩
abbrev cX12_ask : ByteArray := prog_14_method_73_code
def yX12_ask : MethodName := ⟨RX12, "ask", "(I)I"⟩
abbrev cX12_childRate : ByteArray := prog_14_method_74_code
def yX12_childRate : MethodName := ⟨RX12, "childRate", "(I)I"⟩
abbrev cX12_climberRate : ByteArray := prog_14_method_75_code
def yX12_climberRate : MethodName := ⟨RX12, "climberRate", "(I)I"⟩
abbrev cX12_guestRate : ByteArray := prog_14_method_76_code
def yX12_guestRate : MethodName := ⟨RX12, "guestRate", "(I)I"⟩
abbrev cX12_rate : ByteArray := prog_14_method_77_code
def yX12_rate : MethodName := ⟨RX12, "rate", "(II)I"⟩
abbrev cX12_keep : ByteArray := prog_14_method_78_code
def yX12_keep : MethodName := ⟨RX12, "keep", "(I)I"⟩
abbrev cX12_back : ByteArray := prog_14_method_79_code
def yX12_back : MethodName := ⟨RX12, "back", "(I)I"⟩
abbrev cX12_count : ByteArray := prog_14_method_80_code
def yX12_count : MethodName := ⟨RX12, "count", "(I)I"⟩
abbrev cX12_trace : ByteArray := prog_14_method_81_code
def yX12_trace : MethodName := ⟨RX12, "trace", "()J"⟩
def RJ6 : String := "java/lang/Integer"
def TJ6 : u_T := fun k => match k with
  | _ => ("", "", "", false)
def tyJ6 : Nat → FieldType := fun k => match k with
  | _ => .int
abbrev wsJ60 : List Cond := u_ws RJ6 TJ6 0
theorem nmJ6 : ∀ a, a < 0 → ∀ b, b < 0 → a ≠ b → (TJ6 a).2.1 ≠ (TJ6 b).2.1 := by decide +kernel
theorem tyJ6_ok : ∀ k, k < 0 → parseFieldDescriptor (TJ6 k).2.2.1 = some (tyJ6 k) := by decide +kernel
abbrev cJ6_numberOfTrailingZeros_0f7a4 : ByteArray := prog_15_method_48_code
def yJ6_numberOfTrailingZeros_0f7a4 : MethodName := ⟨RJ6, "numberOfTrailingZeros", "(I)I"⟩
abbrev cJ6_bitCount_0f7a4 : ByteArray := prog_15_method_49_code
def yJ6_bitCount_0f7a4 : MethodName := ⟨RJ6, "bitCount", "(I)I"⟩
def RJ9 : String := "java/lang/Math"
def TJ9 : u_T := fun k => match k with
  | _ => ("", "", "", false)
def tyJ9 : Nat → FieldType := fun k => match k with
  | _ => .int
abbrev wsJ90 : List Cond := u_ws RJ9 TJ9 0
theorem nmJ9 : ∀ a, a < 0 → ∀ b, b < 0 → a ≠ b → (TJ9 a).2.1 ≠ (TJ9 b).2.1 := by decide +kernel
theorem tyJ9_ok : ∀ k, k < 0 → parseFieldDescriptor (TJ9 k).2.2.1 = some (tyJ9 k) := by decide +kernel
abbrev cJ9_abs_0f7a4 : ByteArray := prog_16_method_59_code
def yJ9_abs_0f7a4 : MethodName := ⟨RJ9, "abs", "(I)I"⟩
abbrev cJ9_max_7cf53 : ByteArray := prog_16_method_65_code
def yJ9_max_7cf53 : MethodName := ⟨RJ9, "max", "(II)I"⟩
abbrev cJ9_min_7cf53 : ByteArray := prog_16_method_69_code
def yJ9_min_7cf53 : MethodName := ⟨RJ9, "min", "(II)I"⟩
def RJ10 : String := "java/lang/System"
def TJ10 : u_T := fun k => match k with
  | _ => ("", "", "", false)
def tyJ10 : Nat → FieldType := fun k => match k with
  | _ => .int
abbrev wsJ100 : List Cond := u_ws RJ10 TJ10 0
theorem nmJ10 : ∀ a, a < 0 → ∀ b, b < 0 → a ≠ b → (TJ10 a).2.1 ≠ (TJ10 b).2.1 := by decide +kernel
theorem tyJ10_ok : ∀ k, k < 0 → parseFieldDescriptor (TJ10 k).2.2.1 = some (tyJ10 k) := by decide +kernel
def RL : String := "TreePlanksLaw"
abbrev cL_law : ByteArray := code
def yL_law : MethodName := ⟨RL, "law", "([I)Z"⟩
theorem inX0 : ∀ w ∈ wsX00, w ∈ lw_tbl := by decide +kernel
theorem inX1 : ∀ w ∈ wsX10, w ∈ lw_tbl := by decide +kernel
theorem inX2 : ∀ w ∈ wsX20, w ∈ lw_tbl := by decide +kernel
theorem inX3 : ∀ w ∈ wsX30, w ∈ lw_tbl := by decide +kernel
theorem inX4 : ∀ w ∈ wsX40, w ∈ lw_tbl := by decide +kernel
theorem inX5 : ∀ w ∈ wsX50, w ∈ lw_tbl := by decide +kernel
theorem inX6 : ∀ w ∈ wsX60, w ∈ lw_tbl := by decide +kernel
theorem inX7 : ∀ w ∈ wsX70, w ∈ lw_tbl := by decide +kernel
theorem inX8 : ∀ w ∈ wsX80, w ∈ lw_tbl := by decide +kernel
theorem inX9 : ∀ w ∈ wsX90, w ∈ lw_tbl := by decide +kernel
theorem inX10 : ∀ w ∈ wsX100, w ∈ lw_tbl := by decide +kernel
theorem inX11 : ∀ w ∈ wsX110, w ∈ lw_tbl := by decide +kernel
theorem inX12 : ∀ w ∈ wsX120, w ∈ lw_tbl := by decide +kernel
theorem inJ6 : ∀ w ∈ wsJ60, w ∈ lw_tbl := by decide +kernel
theorem inJ9 : ∀ w ∈ wsJ90, w ∈ lw_tbl := by decide +kernel
theorem inJ10 : ∀ w ∈ wsJ100, w ∈ lw_tbl := by decide +kernel
abbrev vwCl : List vw_C := [(RX0, TX0, 2), (RX1, TX1, 2), (RX2, TX2, 2), (RX3, TX3, 1), (RX4, TX4, 1), (RX5, TX5, 3), (RX6, TX6, 6), (RX7, TX7, 6), (RX8, TX8, 1), (RX9, TX9, 7), (RX10, TX10, 11), (RX11, TX11, 13), (RX12, TX12, 34)]
