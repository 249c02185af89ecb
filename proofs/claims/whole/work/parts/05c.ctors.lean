/-- a cell of a system, its references places -/
def zk_ab (S : zkS) (mem : zkM) (k : Nat) : va_E := match S.2.1 k with
  | some (.inl (n, 0)) => .inl (0, n, .inl (mem.1 k))
  | some (.inl (n, 1)) => .inl (1, n, .inl (mem.1 k))
  | some (.inl (n, 2)) => .inl (2, n, .inr (.inl (mem.2 k)))
  | some (.inl (n, _)) => .inl (3, n, .inr (.inr (.inr (.inr (fun i => if i < n then some (S.2.2 k i) else none)))))
  | some (.inr ci) => .inr (ci, (List.range (zk_nf ci)).map (zk_fv S id mem k ci))
  | none => .inr (0, [])
theorem zk_ab_ce (S : zkS) (α : Nat → Nat) (κ : Nat → ClassId) (mem : zkM) (k : Nat) : zk_ce α κ (zk_ab S mem k) = zk_cell S α κ mem k := by
  unfold zk_ab zk_cell zk_arr
  split
  · rename_i h; rw [h]; rfl
  · rename_i h; rw [h]; rfl
  · rename_i h; rw [h]; rfl
  · rename_i n x h0 h1 h2 h
    rw [h]
    match x, h0, h1, h2 with
    | 0, h0, _, _ => exact absurd rfl h0
    | 1, _, h1, _ => exact absurd rfl h1
    | 2, _, _, h2 => exact absurd rfl h2
    | x + 3, _, _, _ =>
      show Sum.inl (κ 3, n, Sum.inr (Sum.inr (Sum.inr (Sum.inr (fun i => (if i < n then some (S.2.2 k i) else none).map α))))) = Sum.inl (κ 3, n, Sum.inr (Sum.inr (Sum.inr (Sum.inr (fun i => if i < n then some (α (S.2.2 k i)) else none)))))
      have : (fun i => (if i < n then some (S.2.2 k i) else none).map α) = (fun i => if i < n then some (α (S.2.2 k i)) else none) := by
        funext i
        by_cases hi : i < n
        · rw [if_pos hi, if_pos hi]; rfl
        · rw [if_neg hi, if_neg hi]; rfl
      rw [this]
  · rename_i ci h
    rw [h]
    show Sum.inr (ci, ((List.range (zk_nf ci)).map (zk_fv S id mem k ci)).map (zk_cv α)) = _
    rw [List.map_map]
    have : (zk_cv α ∘ zk_fv S id mem k ci) = zk_fv S α mem k ci := by
      funext f
      show zk_cv α (zk_fv S id mem k ci f) = _
      unfold zk_fv
      split <;> rfl
    rw [this]
  · rename_i h; rw [h]; rfl
theorem zk_ab_w (S : zkS) (α : Nat → Nat) (κ : Nat → ClassId) (mem : zkM) : zk_cw α κ ((List.range S.1).map (zk_ab S mem)) = zk_w S α κ mem := by
  apply List.ext_getElem?
  intro j
  by_cases h : j < S.1
  · rw [zk_w_get h, zk_cw_get (c := zk_ab S mem j) (by rw [List.getElem?_map, List.getElem?_range h]; rfl), zk_ab_ce]
  · unfold zk_cw zk_w
    rw [List.getElem?_eq_none (by simpa using h), List.getElem?_eq_none (by simpa using h)]
def zX_mem : zkM := (fun k f => if k = 26 ∧ (f = 1 ∨ f = 2) then -9 else if k = 30 ∧ f = 5 then -1 else 0, fun _ _ => 0)
def zM_mem : zkM := (fun k f => if k = 4 ∧ 1 ≤ f ∧ f < 6 then -9 else 0, fun _ _ => 0)
def zX_cs : List va_E := (List.range 64).map (zk_ab zSX zX_mem)
def zM_cs : List va_E := (List.range 20).map (zk_ab zSM zM_mem)
theorem zM_st : (upd (upd (upd (upd (upd (fun _ => 0) (Int32.toNatClampNeg 1) (-9)) (Int32.toNatClampNeg 2) (-9)) (Int32.toNatClampNeg 3) (-9)) (Int32.toNatClampNeg 4) (-9)) (Int32.toNatClampNeg 5) (-9)) = zM_mem.1 4 := by
  funext f
  have e1 : Int32.toNatClampNeg 1 = 1 := by decide
  have e2 : Int32.toNatClampNeg 2 = 2 := by decide
  have e3 : Int32.toNatClampNeg 3 = 3 := by decide
  have e4 : Int32.toNatClampNeg 4 = 4 := by decide
  have e5 : Int32.toNatClampNeg 5 = 5 := by decide
  rw [e1, e2, e3, e4, e5]
  show _ = (if 4 = 4 ∧ 1 ≤ f ∧ f < 6 then (-9 : Int32) else 0)
  unfold upd
  by_cases h5 : f = 5
  · subst h5; rfl
  by_cases h4 : f = 4
  · subst h4; rfl
  by_cases h3 : f = 3
  · subst h3; rfl
  by_cases h2 : f = 2
  · subst h2; rfl
  by_cases h1 : f = 1
  · subst h1; rfl
  rw [if_neg h5, if_neg h4, if_neg h3, if_neg h2, if_neg h1, if_neg (by omega)]
abbrev zY_X11_init : zkY := (yX11_init, cX11_init, 1, none)
abbrev zY_X9_init : zkY := (yX9_init, cX9_init, 1, none)
abbrev zY_X8_init : zkY := (yX8_init, cX8_init, 1, none)
abbrev zY_X1_init : zkY := (yX1_init, cX1_init, 1, none)
abbrev zY_X5_init : zkY := (yX5_init, cX5_init, 1, none)
abbrev zY_X0_init : zkY := (yX0_init, cX0_init, 1, none)
abbrev zY_X7_init : zkY := (yX7_init, cX7_init, 1, none)
abbrev zY_X6_init : zkY := (yX6_init, cX6_init, 1, none)
abbrev zY_X3_init : zkY := (yX3_init, cX3_init, 1, none)
abbrev zY_X2_init : zkY := (yX2_init, cX2_init, 1, none)
abbrev zY_X4_init : zkY := (yX4_init, cX4_init, 1, none)
abbrev zY_X10_init : zkY := (yX10_init, cX10_init, 1, none)
abbrev zY_X12_init : zkY := (yX12_init, cX12_init, 2, none)
theorem zo_obj : Cond.instanceMethod Lib.objectInit ∈ zk_tb ∧ Cond.code Lib.objectInit ⟨#[0xb1]⟩ 1 none ∈ zk_tb := ⟨zk_ix 84 (by decide +kernel) rfl, zk_ix 85 (by decide +kernel) rfl⟩
theorem za_int : Cond.arrayClass .int ∈ zk_tb := zk_ix 117 (by decide +kernel) rfl
theorem za_boolean : Cond.arrayClass .boolean ∈ zk_tb := zk_ix 177 (by decide +kernel) rfl
theorem za_long : Cond.arrayClass .long ∈ zk_tb := zk_ix 258 (by decide +kernel) rfl
theorem zl_X11_init : zk_lk zY_X11_init 0 := ⟨zk_ix 82 (by decide +kernel) rfl, zk_ix 62 (by decide +kernel) rfl, by decide +kernel, by decide⟩
theorem zob_X11 : Cond.methodLink RX11 1 Lib.objectInit ∈ zk_tb := zk_ix 83 (by decide +kernel) rfl
theorem zn_X11_7 : Cond.classLink RX11 7 RX9 ∈ zk_tb ∧ Cond.instantiable RX9 7 ∈ zk_tb ∧ Cond.initialized RX9 ∈ zk_tb := ⟨zk_ix 86 (by decide +kernel) rfl, zk_ix 87 (by decide +kernel) rfl, zk_ix 63 (by decide +kernel) rfl⟩
theorem zdf_X9 : ∀ j, j < 7 → defaultValue (zk_ty 9 j) = vp_V [.null, .int 0, .int 0, .int 0, .int 0, .int 0, .null] j := by decide +kernel
theorem zl_X9_init : zk_lk zY_X9_init 0 := ⟨zk_ix 90 (by decide +kernel) rfl, zk_ix 63 (by decide +kernel) rfl, by decide +kernel, by decide⟩
theorem zob_X9 : Cond.methodLink RX9 3 Lib.objectInit ∈ zk_tb := zk_ix 91 (by decide +kernel) rfl
theorem zzf_X9_9 : zk_ff RX9 9 9 0 := ⟨RX9, TX9, 7, zk_ok9, by decide, zk_ix 94 (by decide +kernel) rfl, rfl, rfl⟩
theorem zzp_X9_15 : zk_fp RX9 15 9 1 := ⟨RX9, TX9, 7, zk_ok9, by decide, zk_ix 95 (by decide +kernel) rfl, rfl⟩
theorem zzp_X9_19 : zk_fp RX9 19 9 2 := ⟨RX9, TX9, 7, zk_ok9, by decide, zk_ix 97 (by decide +kernel) rfl, rfl⟩
theorem zzp_X9_22 : zk_fp RX9 22 9 3 := ⟨RX9, TX9, 7, zk_ok9, by decide, zk_ix 98 (by decide +kernel) rfl, rfl⟩
theorem zzp_X9_25 : zk_fp RX9 25 9 4 := ⟨RX9, TX9, 7, zk_ok9, by decide, zk_ix 99 (by decide +kernel) rfl, rfl⟩
theorem zzp_X9_28 : zk_fp RX9 28 9 5 := ⟨RX9, TX9, 7, zk_ok9, by decide, zk_ix 100 (by decide +kernel) rfl, rfl⟩
theorem zs2_X9_31 : Cond.fieldLink RX9 31 "TreePlanks$Script" "PLANK_LEAST" "[I" ∈ zk_tb := zk_ix 92 (by decide +kernel) rfl
theorem zzf_X9_34 : zk_ff RX9 34 9 6 := ⟨RX9, TX9, 7, zk_ok9, by decide, zk_ix 101 (by decide +kernel) rfl, rfl, rfl⟩
theorem zci_X11_9 : (RX11, 9, yX9_init, "TreePlanks") ∈ zk_nsti ∧ Cond.instanceMethod yX9_init ∈ zk_tb := ⟨by decide +kernel, zk_ix 89 (by decide +kernel) rfl⟩
theorem zzf_X11_10 : zk_ff RX11 10 11 0 := ⟨RX11, TX11, 13, zk_ok11, by decide, zk_ix 335 (by decide +kernel) rfl, rfl, rfl⟩
theorem zn_X11_16 : Cond.classLink RX11 16 RX8 ∈ zk_tb ∧ Cond.instantiable RX8 1 ∈ zk_tb ∧ Cond.initialized RX8 ∈ zk_tb := ⟨zk_ix 118 (by decide +kernel) rfl, zk_ix 119 (by decide +kernel) rfl, zk_ix 64 (by decide +kernel) rfl⟩
theorem zdf_X8 : ∀ j, j < 1 → defaultValue (zk_ty 8 j) = vp_V [.null] j := by decide +kernel
theorem zl_X8_init : zk_lk zY_X8_init 0 := ⟨zk_ix 122 (by decide +kernel) rfl, zk_ix 64 (by decide +kernel) rfl, by decide +kernel, by decide⟩
theorem zob_X8 : Cond.methodLink RX8 5 Lib.objectInit ∈ zk_tb := zk_ix 123 (by decide +kernel) rfl
theorem zzf_X8_11 : zk_ff RX8 11 8 0 := ⟨RX8, TX8, 1, zk_ok8, by decide, zk_ix 124 (by decide +kernel) rfl, rfl, rfl⟩
theorem zci_X11_18 : (RX11, 18, yX8_init, "TreePlanks") ∈ zk_nsti ∧ Cond.instanceMethod yX8_init ∈ zk_tb := ⟨by decide +kernel, zk_ix 121 (by decide +kernel) rfl⟩
theorem zzf_X11_19 : zk_ff RX11 19 11 1 := ⟨RX11, TX11, 13, zk_ok11, by decide, zk_ix 336 (by decide +kernel) rfl, rfl, rfl⟩
theorem zn_X11_23 : Cond.classLink RX11 23 RX1 ∈ zk_tb ∧ Cond.instantiable RX1 2 ∈ zk_tb ∧ Cond.initialized RX1 ∈ zk_tb := ⟨zk_ix 129 (by decide +kernel) rfl, zk_ix 130 (by decide +kernel) rfl, zk_ix 65 (by decide +kernel) rfl⟩
theorem zdf_X1 : ∀ j, j < 2 → defaultValue (zk_ty 1 j) = vp_V [.null, .null] j := by decide +kernel
theorem zl_X1_init : zk_lk zY_X1_init 0 := ⟨zk_ix 133 (by decide +kernel) rfl, zk_ix 65 (by decide +kernel) rfl, by decide +kernel, by decide⟩
theorem zob_X1 : Cond.methodLink RX1 3 Lib.objectInit ∈ zk_tb := zk_ix 134 (by decide +kernel) rfl
theorem zzf_X1_9 : zk_ff RX1 9 1 0 := ⟨RX1, TX1, 2, zk_ok1, by decide, zk_ix 135 (by decide +kernel) rfl, rfl, rfl⟩
theorem zzf_X1_15 : zk_ff RX1 15 1 1 := ⟨RX1, TX1, 2, zk_ok1, by decide, zk_ix 137 (by decide +kernel) rfl, rfl, rfl⟩
theorem zci_X11_25 : (RX11, 25, yX1_init, "TreePlanks") ∈ zk_nsti ∧ Cond.instanceMethod yX1_init ∈ zk_tb := ⟨by decide +kernel, zk_ix 132 (by decide +kernel) rfl⟩
theorem zzf_X11_26 : zk_ff RX11 26 11 2 := ⟨RX11, TX11, 13, zk_ok11, by decide, zk_ix 337 (by decide +kernel) rfl, rfl, rfl⟩
theorem zn_X11_30 : Cond.classLink RX11 30 RX5 ∈ zk_tb ∧ Cond.instantiable RX5 3 ∈ zk_tb ∧ Cond.initialized RX5 ∈ zk_tb := ⟨zk_ix 144 (by decide +kernel) rfl, zk_ix 145 (by decide +kernel) rfl, zk_ix 66 (by decide +kernel) rfl⟩
theorem zdf_X5 : ∀ j, j < 3 → defaultValue (zk_ty 5 j) = vp_V [.null, .int 0, .int 0] j := by decide +kernel
theorem zl_X5_init : zk_lk zY_X5_init 0 := ⟨zk_ix 148 (by decide +kernel) rfl, zk_ix 66 (by decide +kernel) rfl, by decide +kernel, by decide⟩
theorem zob_X5 : Cond.methodLink RX5 3 Lib.objectInit ∈ zk_tb := zk_ix 149 (by decide +kernel) rfl
theorem zcl_X5_11 : Cond.classLink RX5 11 "[[I" ∈ zk_tb := zk_ix 150 (by decide +kernel) rfl
theorem zzf_X5_13 : zk_ff RX5 13 5 0 := ⟨RX5, TX5, 3, zk_ok5, by decide, zk_ix 152 (by decide +kernel) rfl, rfl, rfl⟩
theorem zzp_X5_18 : zk_fp RX5 18 5 1 := ⟨RX5, TX5, 3, zk_ok5, by decide, zk_ix 153 (by decide +kernel) rfl, rfl⟩
theorem zzp_X5_22 : zk_fp RX5 22 5 2 := ⟨RX5, TX5, 3, zk_ok5, by decide, zk_ix 155 (by decide +kernel) rfl, rfl⟩
theorem zci_X11_32 : (RX11, 32, yX5_init, "TreePlanks") ∈ zk_nsti ∧ Cond.instanceMethod yX5_init ∈ zk_tb := ⟨by decide +kernel, zk_ix 147 (by decide +kernel) rfl⟩
theorem zzf_X11_33 : zk_ff RX11 33 11 3 := ⟨RX11, TX11, 13, zk_ok11, by decide, zk_ix 338 (by decide +kernel) rfl, rfl, rfl⟩
theorem zn_X11_37 : Cond.classLink RX11 37 RX0 ∈ zk_tb ∧ Cond.instantiable RX0 2 ∈ zk_tb ∧ Cond.initialized RX0 ∈ zk_tb := ⟨zk_ix 163 (by decide +kernel) rfl, zk_ix 164 (by decide +kernel) rfl, zk_ix 67 (by decide +kernel) rfl⟩
theorem zdf_X0 : ∀ j, j < 2 → defaultValue (zk_ty 0 j) = vp_V [.null, .null] j := by decide +kernel
theorem zl_X0_init : zk_lk zY_X0_init 0 := ⟨zk_ix 167 (by decide +kernel) rfl, zk_ix 67 (by decide +kernel) rfl, by decide +kernel, by decide⟩
theorem zob_X0 : Cond.methodLink RX0 3 Lib.objectInit ∈ zk_tb := zk_ix 168 (by decide +kernel) rfl
theorem zcl_X0_11 : Cond.classLink RX0 11 "[[I" ∈ zk_tb := zk_ix 169 (by decide +kernel) rfl
theorem zzf_X0_13 : zk_ff RX0 13 0 0 := ⟨RX0, TX0, 2, zk_ok0, by decide, zk_ix 170 (by decide +kernel) rfl, rfl, rfl⟩
theorem zzf_X0_18 : zk_ff RX0 18 0 1 := ⟨RX0, TX0, 2, zk_ok0, by decide, zk_ix 171 (by decide +kernel) rfl, rfl, rfl⟩
theorem zci_X11_39 : (RX11, 39, yX0_init, "TreePlanks") ∈ zk_nsti ∧ Cond.instanceMethod yX0_init ∈ zk_tb := ⟨by decide +kernel, zk_ix 166 (by decide +kernel) rfl⟩
theorem zzf_X11_40 : zk_ff RX11 40 11 4 := ⟨RX11, TX11, 13, zk_ok11, by decide, zk_ix 339 (by decide +kernel) rfl, rfl, rfl⟩
theorem zn_X11_44 : Cond.classLink RX11 44 RX7 ∈ zk_tb ∧ Cond.instantiable RX7 6 ∈ zk_tb ∧ Cond.initialized RX7 ∈ zk_tb := ⟨zk_ix 178 (by decide +kernel) rfl, zk_ix 179 (by decide +kernel) rfl, zk_ix 68 (by decide +kernel) rfl⟩
theorem zdf_X7 : ∀ j, j < 6 → defaultValue (zk_ty 7 j) = vp_V [.int 0, .int 0, .int 0, .null, .null, .null] j := by decide +kernel
theorem zl_X7_init : zk_lk zY_X7_init 0 := ⟨zk_ix 182 (by decide +kernel) rfl, zk_ix 68 (by decide +kernel) rfl, by decide +kernel, by decide⟩
theorem zob_X7 : Cond.methodLink RX7 3 Lib.objectInit ∈ zk_tb := zk_ix 183 (by decide +kernel) rfl
theorem zzp_X7_9 : zk_fp RX7 9 7 0 := ⟨RX7, TX7, 6, zk_ok7, by decide, zk_ix 184 (by decide +kernel) rfl, rfl⟩
theorem zzp_X7_15 : zk_fp RX7 15 7 1 := ⟨RX7, TX7, 6, zk_ok7, by decide, zk_ix 186 (by decide +kernel) rfl, rfl⟩
theorem zzp_X7_18 : zk_fp RX7 18 7 2 := ⟨RX7, TX7, 6, zk_ok7, by decide, zk_ix 188 (by decide +kernel) rfl, rfl⟩
theorem zzf_X7_21 : zk_ff RX7 21 7 3 := ⟨RX7, TX7, 6, zk_ok7, by decide, zk_ix 190 (by decide +kernel) rfl, rfl, rfl⟩
theorem zzf_X7_25 : zk_ff RX7 25 7 4 := ⟨RX7, TX7, 6, zk_ok7, by decide, zk_ix 191 (by decide +kernel) rfl, rfl, rfl⟩
theorem zzf_X7_28 : zk_ff RX7 28 7 5 := ⟨RX7, TX7, 6, zk_ok7, by decide, zk_ix 192 (by decide +kernel) rfl, rfl, rfl⟩
theorem zci_X11_46 : (RX11, 46, yX7_init, "TreePlanks") ∈ zk_nsti ∧ Cond.instanceMethod yX7_init ∈ zk_tb := ⟨by decide +kernel, zk_ix 181 (by decide +kernel) rfl⟩
theorem zzf_X11_47 : zk_ff RX11 47 11 5 := ⟨RX11, TX11, 13, zk_ok11, by decide, zk_ix 340 (by decide +kernel) rfl, rfl, rfl⟩
theorem zn_X11_51 : Cond.classLink RX11 51 RX6 ∈ zk_tb ∧ Cond.instantiable RX6 6 ∈ zk_tb ∧ Cond.initialized RX6 ∈ zk_tb := ⟨zk_ix 206 (by decide +kernel) rfl, zk_ix 207 (by decide +kernel) rfl, zk_ix 69 (by decide +kernel) rfl⟩
theorem zdf_X6 : ∀ j, j < 6 → defaultValue (zk_ty 6 j) = vp_V [.null, .null, .null, .null, .null, .int 0] j := by decide +kernel
theorem zl_X6_init : zk_lk zY_X6_init 0 := ⟨zk_ix 210 (by decide +kernel) rfl, zk_ix 69 (by decide +kernel) rfl, by decide +kernel, by decide⟩
theorem zob_X6 : Cond.methodLink RX6 3 Lib.objectInit ∈ zk_tb := zk_ix 211 (by decide +kernel) rfl
theorem zn_X6_9 : Cond.classLink RX6 9 RX1 ∈ zk_tb ∧ Cond.instantiable RX1 2 ∈ zk_tb ∧ Cond.initialized RX1 ∈ zk_tb := ⟨zk_ix 212 (by decide +kernel) rfl, zk_ix 130 (by decide +kernel) rfl, zk_ix 65 (by decide +kernel) rfl⟩
theorem zci_X6_11 : (RX6, 11, yX1_init, "TreePlanks") ∈ zk_nsti ∧ Cond.instanceMethod yX1_init ∈ zk_tb := ⟨by decide +kernel, zk_ix 132 (by decide +kernel) rfl⟩
theorem zzf_X6_12 : zk_ff RX6 12 6 0 := ⟨RX6, TX6, 6, zk_ok6, by decide, zk_ix 214 (by decide +kernel) rfl, rfl, rfl⟩
theorem zzf_X6_18 : zk_ff RX6 18 6 1 := ⟨RX6, TX6, 6, zk_ok6, by decide, zk_ix 215 (by decide +kernel) rfl, rfl, rfl⟩
theorem zzf_X6_22 : zk_ff RX6 22 6 2 := ⟨RX6, TX6, 6, zk_ok6, by decide, zk_ix 216 (by decide +kernel) rfl, rfl, rfl⟩
theorem zzf_X6_25 : zk_ff RX6 25 6 3 := ⟨RX6, TX6, 6, zk_ok6, by decide, zk_ix 217 (by decide +kernel) rfl, rfl, rfl⟩
theorem zzf_X6_28 : zk_ff RX6 28 6 4 := ⟨RX6, TX6, 6, zk_ok6, by decide, zk_ix 218 (by decide +kernel) rfl, rfl, rfl⟩
theorem zzp_X6_31 : zk_fp RX6 31 6 5 := ⟨RX6, TX6, 6, zk_ok6, by decide, zk_ix 219 (by decide +kernel) rfl, rfl⟩
theorem zci_X11_53 : (RX11, 53, yX6_init, "TreePlanks") ∈ zk_nsti ∧ Cond.instanceMethod yX6_init ∈ zk_tb := ⟨by decide +kernel, zk_ix 209 (by decide +kernel) rfl⟩
theorem zzf_X11_54 : zk_ff RX11 54 11 6 := ⟨RX11, TX11, 13, zk_ok11, by decide, zk_ix 341 (by decide +kernel) rfl, rfl, rfl⟩
theorem zn_X11_58 : Cond.classLink RX11 58 RX3 ∈ zk_tb ∧ Cond.instantiable RX3 1 ∈ zk_tb ∧ Cond.initialized RX3 ∈ zk_tb := ⟨zk_ix 233 (by decide +kernel) rfl, zk_ix 234 (by decide +kernel) rfl, zk_ix 70 (by decide +kernel) rfl⟩
theorem zdf_X3 : ∀ j, j < 1 → defaultValue (zk_ty 3 j) = vp_V [.null] j := by decide +kernel
theorem zl_X3_init : zk_lk zY_X3_init 0 := ⟨zk_ix 237 (by decide +kernel) rfl, zk_ix 70 (by decide +kernel) rfl, by decide +kernel, by decide⟩
theorem zob_X3 : Cond.methodLink RX3 3 Lib.objectInit ∈ zk_tb := zk_ix 238 (by decide +kernel) rfl
theorem zn_X3_9 : Cond.classLink RX3 9 RX8 ∈ zk_tb ∧ Cond.instantiable RX8 1 ∈ zk_tb ∧ Cond.initialized RX8 ∈ zk_tb := ⟨zk_ix 239 (by decide +kernel) rfl, zk_ix 119 (by decide +kernel) rfl, zk_ix 64 (by decide +kernel) rfl⟩
theorem zci_X3_11 : (RX3, 11, yX8_init, "TreePlanks") ∈ zk_nsti ∧ Cond.instanceMethod yX8_init ∈ zk_tb := ⟨by decide +kernel, zk_ix 121 (by decide +kernel) rfl⟩
theorem zzf_X3_12 : zk_ff RX3 12 3 0 := ⟨RX3, TX3, 1, zk_ok3, by decide, zk_ix 241 (by decide +kernel) rfl, rfl, rfl⟩
theorem zci_X11_60 : (RX11, 60, yX3_init, "TreePlanks") ∈ zk_nsti ∧ Cond.instanceMethod yX3_init ∈ zk_tb := ⟨by decide +kernel, zk_ix 236 (by decide +kernel) rfl⟩
theorem zzf_X11_61 : zk_ff RX11 61 11 7 := ⟨RX11, TX11, 13, zk_ok11, by decide, zk_ix 342 (by decide +kernel) rfl, rfl, rfl⟩
theorem zn_X11_65 : Cond.classLink RX11 65 RX2 ∈ zk_tb ∧ Cond.instantiable RX2 2 ∈ zk_tb ∧ Cond.initialized RX2 ∈ zk_tb := ⟨zk_ix 245 (by decide +kernel) rfl, zk_ix 246 (by decide +kernel) rfl, zk_ix 71 (by decide +kernel) rfl⟩
theorem zdf_X2 : ∀ j, j < 2 → defaultValue (zk_ty 2 j) = vp_V [.null, .null] j := by decide +kernel
theorem zl_X2_init : zk_lk zY_X2_init 0 := ⟨zk_ix 249 (by decide +kernel) rfl, zk_ix 71 (by decide +kernel) rfl, by decide +kernel, by decide⟩
theorem zob_X2 : Cond.methodLink RX2 3 Lib.objectInit ∈ zk_tb := zk_ix 250 (by decide +kernel) rfl
theorem zzf_X2_11 : zk_ff RX2 11 2 0 := ⟨RX2, TX2, 2, zk_ok2, by decide, zk_ix 251 (by decide +kernel) rfl, rfl, rfl⟩
theorem zzf_X2_15 : zk_ff RX2 15 2 1 := ⟨RX2, TX2, 2, zk_ok2, by decide, zk_ix 252 (by decide +kernel) rfl, rfl, rfl⟩
theorem zci_X11_67 : (RX11, 67, yX2_init, "TreePlanks") ∈ zk_nsti ∧ Cond.instanceMethod yX2_init ∈ zk_tb := ⟨by decide +kernel, zk_ix 248 (by decide +kernel) rfl⟩
theorem zzf_X11_68 : zk_ff RX11 68 11 8 := ⟨RX11, TX11, 13, zk_ok11, by decide, zk_ix 343 (by decide +kernel) rfl, rfl, rfl⟩
theorem zn_X11_72 : Cond.classLink RX11 72 RX4 ∈ zk_tb ∧ Cond.instantiable RX4 1 ∈ zk_tb ∧ Cond.initialized RX4 ∈ zk_tb := ⟨zk_ix 259 (by decide +kernel) rfl, zk_ix 260 (by decide +kernel) rfl, zk_ix 72 (by decide +kernel) rfl⟩
theorem zdf_X4 : ∀ j, j < 1 → defaultValue (zk_ty 4 j) = vp_V [.null] j := by decide +kernel
theorem zl_X4_init : zk_lk zY_X4_init 0 := ⟨zk_ix 263 (by decide +kernel) rfl, zk_ix 72 (by decide +kernel) rfl, by decide +kernel, by decide⟩
theorem zob_X4 : Cond.methodLink RX4 3 Lib.objectInit ∈ zk_tb := zk_ix 264 (by decide +kernel) rfl
theorem zzf_X4_9 : zk_ff RX4 9 4 0 := ⟨RX4, TX4, 1, zk_ok4, by decide, zk_ix 265 (by decide +kernel) rfl, rfl, rfl⟩
theorem zci_X11_74 : (RX11, 74, yX4_init, "TreePlanks") ∈ zk_nsti ∧ Cond.instanceMethod yX4_init ∈ zk_tb := ⟨by decide +kernel, zk_ix 262 (by decide +kernel) rfl⟩
theorem zzf_X11_75 : zk_ff RX11 75 11 9 := ⟨RX11, TX11, 13, zk_ok11, by decide, zk_ix 344 (by decide +kernel) rfl, rfl, rfl⟩
theorem zn_X11_79 : Cond.classLink RX11 79 RX10 ∈ zk_tb ∧ Cond.instantiable RX10 11 ∈ zk_tb ∧ Cond.initialized RX10 ∈ zk_tb := ⟨zk_ix 269 (by decide +kernel) rfl, zk_ix 270 (by decide +kernel) rfl, zk_ix 73 (by decide +kernel) rfl⟩
theorem zdf_X10 : ∀ j, j < 11 → defaultValue (zk_ty 10 j) = vp_V [.int 0, .int 0, .int 0, .null, .null, .null, .null, .null, .null, .null, .null] j := by decide +kernel
theorem zl_X10_init : zk_lk zY_X10_init 0 := ⟨zk_ix 273 (by decide +kernel) rfl, zk_ix 73 (by decide +kernel) rfl, by decide +kernel, by decide⟩
theorem zob_X10 : Cond.methodLink RX10 3 Lib.objectInit ∈ zk_tb := zk_ix 274 (by decide +kernel) rfl
theorem zzp_X10_9 : zk_fp RX10 9 10 0 := ⟨RX10, TX10, 11, zk_ok10, by decide, zk_ix 275 (by decide +kernel) rfl, rfl⟩
theorem zzp_X10_15 : zk_fp RX10 15 10 1 := ⟨RX10, TX10, 11, zk_ok10, by decide, zk_ix 279 (by decide +kernel) rfl, rfl⟩
theorem zzp_X10_18 : zk_fp RX10 18 10 2 := ⟨RX10, TX10, 11, zk_ok10, by decide, zk_ix 285 (by decide +kernel) rfl, rfl⟩
theorem zzf_X10_21 : zk_ff RX10 21 10 3 := ⟨RX10, TX10, 11, zk_ok10, by decide, zk_ix 289 (by decide +kernel) rfl, rfl, rfl⟩
theorem zzf_X10_25 : zk_ff RX10 25 10 4 := ⟨RX10, TX10, 11, zk_ok10, by decide, zk_ix 291 (by decide +kernel) rfl, rfl, rfl⟩
theorem zzf_X10_28 : zk_ff RX10 28 10 5 := ⟨RX10, TX10, 11, zk_ok10, by decide, zk_ix 294 (by decide +kernel) rfl, rfl, rfl⟩
theorem zzf_X10_31 : zk_ff RX10 31 10 6 := ⟨RX10, TX10, 11, zk_ok10, by decide, zk_ix 296 (by decide +kernel) rfl, rfl, rfl⟩
theorem zzf_X10_34 : zk_ff RX10 34 10 7 := ⟨RX10, TX10, 11, zk_ok10, by decide, zk_ix 300 (by decide +kernel) rfl, rfl, rfl⟩
theorem zzf_X10_37 : zk_ff RX10 37 10 8 := ⟨RX10, TX10, 11, zk_ok10, by decide, zk_ix 303 (by decide +kernel) rfl, rfl, rfl⟩
theorem zzf_X10_40 : zk_ff RX10 40 10 9 := ⟨RX10, TX10, 11, zk_ok10, by decide, zk_ix 305 (by decide +kernel) rfl, rfl, rfl⟩
theorem zzf_X10_43 : zk_ff RX10 43 10 10 := ⟨RX10, TX10, 11, zk_ok10, by decide, zk_ix 309 (by decide +kernel) rfl, rfl, rfl⟩
theorem zci_X11_81 : (RX11, 81, yX10_init, "TreePlanks") ∈ zk_nsti ∧ Cond.instanceMethod yX10_init ∈ zk_tb := ⟨by decide +kernel, zk_ix 272 (by decide +kernel) rfl⟩
theorem zzp_X11_82 : zk_fp RX11 82 11 10 := ⟨RX11, TX11, 13, zk_ok11, by decide, zk_ix 345 (by decide +kernel) rfl, rfl⟩
theorem zzp_X11_86 : zk_fp RX11 86 11 11 := ⟨RX11, TX11, 13, zk_ok11, by decide, zk_ix 346 (by decide +kernel) rfl, rfl⟩
theorem zzp_X11_89 : zk_fp RX11 89 11 12 := ⟨RX11, TX11, 13, zk_ok11, by decide, zk_ix 347 (by decide +kernel) rfl, rfl⟩
theorem zl_X12_init : zk_lk zY_X12_init 0 := ⟨zk_ix 930 (by decide +kernel) rfl, zk_ix 74 (by decide +kernel) rfl, by decide +kernel, by decide⟩
theorem zob_X12 : Cond.methodLink RX12 1 Lib.objectInit ∈ zk_tb := zk_ix 931 (by decide +kernel) rfl
theorem zzf_X12_7 : zk_ff RX12 7 12 1 := ⟨RX12, TX12, 34, zk_ok12, by decide, zk_ix 933 (by decide +kernel) rfl, rfl, rfl⟩
theorem zkb_18 : (Int8.ofInt 18).toInt32 = (18 : Int32) := by decide +kernel
theorem zzf_X12_13 : zk_ff RX12 13 12 3 := ⟨RX12, TX12, 34, zk_ok12, by decide, zk_ix 935 (by decide +kernel) rfl, rfl, rfl⟩
theorem zzf_X12_16 : zk_ff RX12 16 12 5 := ⟨RX12, TX12, 34, zk_ok12, by decide, zk_ix 937 (by decide +kernel) rfl, rfl, rfl⟩
theorem zzf_X12_19 : zk_ff RX12 19 12 6 := ⟨RX12, TX12, 34, zk_ok12, by decide, zk_ix 938 (by decide +kernel) rfl, rfl, rfl⟩
theorem zks_420 : (Int16.ofInt 420).toInt32 = (420 : Int32) := by decide +kernel
theorem zzf_X12_22 : zk_ff RX12 22 12 7 := ⟨RX12, TX12, 34, zk_ok12, by decide, zk_ix 939 (by decide +kernel) rfl, rfl, rfl⟩
theorem zkb_84 : (Int8.ofInt 84).toInt32 = (84 : Int32) := by decide +kernel
theorem zzf_X12_25 : zk_ff RX12 25 12 9 := ⟨RX12, TX12, 34, zk_ok12, by decide, zk_ix 941 (by decide +kernel) rfl, rfl, rfl⟩
theorem zzf_X12_28 : zk_ff RX12 28 12 10 := ⟨RX12, TX12, 34, zk_ok12, by decide, zk_ix 942 (by decide +kernel) rfl, rfl, rfl⟩
theorem zzf_X12_32 : zk_ff RX12 32 12 12 := ⟨RX12, TX12, 34, zk_ok12, by decide, zk_ix 944 (by decide +kernel) rfl, rfl, rfl⟩
theorem zzf_X12_35 : zk_ff RX12 35 12 14 := ⟨RX12, TX12, 34, zk_ok12, by decide, zk_ix 946 (by decide +kernel) rfl, rfl, rfl⟩
theorem zzf_X12_38 : zk_ff RX12 38 12 22 := ⟨RX12, TX12, 34, zk_ok12, by decide, zk_ix 954 (by decide +kernel) rfl, rfl, rfl⟩
theorem zzf_X12_41 : zk_ff RX12 41 12 24 := ⟨RX12, TX12, 34, zk_ok12, by decide, zk_ix 956 (by decide +kernel) rfl, rfl, rfl⟩
theorem zzf_X12_44 : zk_ff RX12 44 12 26 := ⟨RX12, TX12, 34, zk_ok12, by decide, zk_ix 958 (by decide +kernel) rfl, rfl, rfl⟩
theorem zzf_X12_47 : zk_ff RX12 47 12 27 := ⟨RX12, TX12, 34, zk_ok12, by decide, zk_ix 959 (by decide +kernel) rfl, rfl, rfl⟩
theorem zzf_X12_50 : zk_ff RX12 50 12 28 := ⟨RX12, TX12, 34, zk_ok12, by decide, zk_ix 960 (by decide +kernel) rfl, rfl, rfl⟩
theorem zzf_X12_53 : zk_ff RX12 53 12 29 := ⟨RX12, TX12, 34, zk_ok12, by decide, zk_ix 961 (by decide +kernel) rfl, rfl, rfl⟩
theorem zzf_X12_56 : zk_ff RX12 56 12 30 := ⟨RX12, TX12, 34, zk_ok12, by decide, zk_ix 962 (by decide +kernel) rfl, rfl, rfl⟩
theorem zzf_X12_59 : zk_ff RX12 59 12 31 := ⟨RX12, TX12, 34, zk_ok12, by decide, zk_ix 963 (by decide +kernel) rfl, rfl, rfl⟩
theorem zzf_X12_63 : zk_ff RX12 63 12 32 := ⟨RX12, TX12, 34, zk_ok12, by decide, zk_ix 964 (by decide +kernel) rfl, rfl, rfl⟩
theorem zzf_X12_66 : zk_ff RX12 66 12 33 := ⟨RX12, TX12, 34, zk_ok12, by decide, zk_ix 965 (by decide +kernel) rfl, rfl, rfl⟩
theorem zgf_X12_19 : zk_fl RX12 19 12 6 := ⟨RX12, TX12, 34, zk_ok12, by decide, zk_ix 938 (by decide +kernel) rfl⟩
theorem zdf_X11 : ∀ j, j < 13 → defaultValue (zk_ty 11 j) = vp_V [.null, .null, .null, .null, .null, .null, .null, .null, .null, .null, .null, .null, .long 0] j := by decide +kernel
theorem zdf_X12 : ∀ j, j < 34 → defaultValue (zk_ty 12 j) = vp_V [.int 0, .null, .int 0, .null, .int 0, .null, .null, .null, .int 0, .null, .null, .int 0, .null, .long 0, .null, .int 0, .int 0, .int 0, .int 0, .int 0, .int 0, .int 0, .null, .int 0, .null, .int 0, .null, .null, .null, .null, .null, .null, .null, .null] j := by decide +kernel
set_option maxRecDepth 100000 in
theorem zM_cs_eq : ([.inr (12, [.int 0, .ref 1, .int 0, .ref 2, .int 0, .ref 3, .ref 4, .ref 5, .int 0, .ref 6, .ref 7, .int 0, .ref 8, .long 0, .ref 9, .int 0, .int 0, .int 0, .int 0, .int 0, .int 0, .int 0, .ref 10, .int 0, .ref 11, .int 0, .ref 12, .ref 13, .ref 14, .ref 15, .ref 16, .ref 17, .ref 18, .ref 19]), .inl (0, 24, .inl (fun _ => 0)), .inl (0, 18, .inl (fun _ => 0)), .inl (0, 10, .inl (fun _ => 0)), .inl (0, 42, .inl (upd (upd (upd (upd (upd (fun _ => 0) (Int32.toNatClampNeg 1) (-9)) (Int32.toNatClampNeg 2) (-9)) (Int32.toNatClampNeg 3) (-9)) (Int32.toNatClampNeg 4) (-9)) (Int32.toNatClampNeg 5) (-9))), .inl (0, 420, .inl (fun _ => 0)), .inl (0, 84, .inl (fun _ => 0)), .inl (1, 2, .inl (fun _ => 0)), .inl (0, 18, .inl (fun _ => 0)), .inl (0, 200, .inl (fun _ => 0)), .inl (0, 24, .inl (fun _ => 0)), .inl (0, 30, .inl (fun _ => 0)), .inl (0, 10, .inl (fun _ => 0)), .inl (0, 5, .inl (fun _ => 0)), .inl (0, 6, .inl (fun _ => 0)), .inl (0, 8, .inl (fun _ => 0)), .inl (0, 36, .inl (fun _ => 0)), .inl (2, 64, .inr (.inl (fun _ => 0))), .inl (2, 64, .inr (.inl (fun _ => 0))), .inl (0, 64, .inl (fun _ => 0))] : List va_E) = zM_cs := by
  rw [zM_st]
  rfl
set_option maxRecDepth 100000 in
set_option maxHeartbeats 4000000 in
theorem zI_Script_1 : zk_XA 0 2 205 zY_X9_init [.ref 1] [.inr (11, [.null, .null, .null, .null, .null, .null, .null, .null, .null, .null, .null, .null, .long 0]), .inr (9, [.null, .int 0, .int 0, .int 0, .int 0, .int 0, .null])] [.inr (11, [.null, .null, .null, .null, .null, .null, .null, .null, .null, .null, .null, .null, .long 0]), .inr (9, [.ref 2, .int 0, .int 0, .int 0, .int 0, .int 0, .ref 3]), .inl (0, 200, .inl (fun _ => 0)), .inl (0, 5, .inl (fun _ => 0))] := by
  refine zk_Ameet (n := 0) (lv := [some (.ref 1)]) zpn_X9 rfl rfl (Nat.le_of_ble_eq_true rfl) ?_
  refine zk_Aaload_n (i := 0) dX9_init_0 rfl rfl ?_
  refine zk_Aobj dX9_init_1 zob_X9 zo_obj (Nat.le_of_ble_eq_true rfl) ?_
  refine zk_Aaload_n (i := 0) dX9_init_4 rfl rfl ?_
  refine zk_Asipush dX9_init_5 zks_200 ?_
  refine zk_AnewaI 200 dX9_init_8 za_int (by decide) (by decide) (by decide) (Nat.le_of_ble_eq_true rfl) rfl (Nat.le_of_ble_eq_true rfl) (Nat.le_of_ble_eq_true rfl) ?_
  refine zk_AputF 1 9 0 dX9_init_10 zzf_X9_9 rfl (Nat.le_of_ble_eq_true rfl) (fun _ => rfl) (fun _ => rfl) rfl ?_
  refine zk_Aaload_n (i := 0) dX9_init_13 rfl rfl ?_
  refine zk_Aiconst dX9_init_14 zki_0 ?_
  refine zk_Aput 1 9 1 dX9_init_15 zzp_X9_15 rfl (Nat.le_of_ble_eq_true rfl) (fun _ => rfl) (fun _ => rfl) rfl ?_
  refine zk_Aaload_n (i := 0) dX9_init_18 rfl rfl ?_
  refine zk_Aiconst dX9_init_19 zki_0 ?_
  refine zk_Aput 1 9 2 dX9_init_20 zzp_X9_19 rfl (Nat.le_of_ble_eq_true rfl) (fun _ => rfl) (fun _ => rfl) rfl ?_
  refine zk_Aaload_n (i := 0) dX9_init_23 rfl rfl ?_
  refine zk_Aiconst dX9_init_24 zki_0 ?_
  refine zk_Aput 1 9 3 dX9_init_25 zzp_X9_22 rfl (Nat.le_of_ble_eq_true rfl) (fun _ => rfl) (fun _ => rfl) rfl ?_
  refine zk_Aaload_n (i := 0) dX9_init_28 rfl rfl ?_
  refine zk_Aiconst dX9_init_29 zki_0 ?_
  refine zk_Aput 1 9 4 dX9_init_30 zzp_X9_25 rfl (Nat.le_of_ble_eq_true rfl) (fun _ => rfl) (fun _ => rfl) rfl ?_
  refine zk_Aaload_n (i := 0) dX9_init_33 rfl rfl ?_
  refine zk_Aiconst dX9_init_34 zki_0 ?_
  refine zk_Aput 1 9 5 dX9_init_35 zzp_X9_28 rfl (Nat.le_of_ble_eq_true rfl) (fun _ => rfl) (fun _ => rfl) rfl ?_
  refine zk_Aaload_n (i := 0) dX9_init_38 rfl rfl ?_
  refine zk_Agets 2 dX9_init_39 rfl zs2_X9_31 ?_
  refine zk_AalenR 2 dX9_init_42 rfl (v := 5) (by decide) ?_
  refine zk_AnewaI 5 dX9_init_43 za_int (by decide) (by decide) (by decide) (Nat.le_of_ble_eq_true rfl) rfl (Nat.le_of_ble_eq_true rfl) (Nat.le_of_ble_eq_true rfl) ?_
  refine zk_AputF 1 9 6 dX9_init_45 zzf_X9_34 rfl (Nat.le_of_ble_eq_true rfl) (fun _ => rfl) (fun _ => rfl) rfl ?_
  exact zk_Aret dX9_init_48 rfl rfl rfl rfl
set_option maxRecDepth 100000 in
set_option maxHeartbeats 4000000 in
theorem zI_Scene_4 : zk_XA 0 1 42 zY_X8_init [.ref 4] [.inr (11, [.ref 1, .null, .null, .null, .null, .null, .null, .null, .null, .null, .null, .null, .long 0]), .inr (9, [.ref 2, .int 0, .int 0, .int 0, .int 0, .int 0, .ref 3]), .inl (0, 200, .inl (fun _ => 0)), .inl (0, 5, .inl (fun _ => 0)), .inr (8, [.null])] [.inr (11, [.ref 1, .null, .null, .null, .null, .null, .null, .null, .null, .null, .null, .null, .long 0]), .inr (9, [.ref 2, .int 0, .int 0, .int 0, .int 0, .int 0, .ref 3]), .inl (0, 200, .inl (fun _ => 0)), .inl (0, 5, .inl (fun _ => 0)), .inr (8, [.ref 5]), .inl (0, 42, .inl (fun _ => 0))] := by
  refine zk_Ameet (n := 0) (lv := [some (.ref 4)]) zpn_X8 rfl rfl (Nat.le_of_ble_eq_true rfl) ?_
  refine zk_Aaload_n (i := 0) dX8_init_0 rfl rfl ?_
  refine zk_Aobj dX8_init_1 zob_X8 zo_obj (Nat.le_of_ble_eq_true rfl) ?_
  refine zk_Aaload_n (i := 0) dX8_init_4 rfl rfl ?_
  refine zk_Abipush dX8_init_5 zkb_42 ?_
  refine zk_AnewaI 42 dX8_init_7 za_int (by decide) (by decide) (by decide) (Nat.le_of_ble_eq_true rfl) rfl (Nat.le_of_ble_eq_true rfl) (Nat.le_of_ble_eq_true rfl) ?_
  refine zk_AputF 4 8 0 dX8_init_9 zzf_X8_11 rfl (Nat.le_of_ble_eq_true rfl) (fun _ => rfl) (fun _ => rfl) rfl ?_
  exact zk_Aret dX8_init_12 rfl rfl rfl rfl
set_option maxRecDepth 100000 in
set_option maxHeartbeats 4000000 in
theorem zI_Burden_6 : zk_XA 0 2 14 zY_X1_init [.ref 6] [.inr (11, [.ref 1, .ref 4, .null, .null, .null, .null, .null, .null, .null, .null, .null, .null, .long 0]), .inr (9, [.ref 2, .int 0, .int 0, .int 0, .int 0, .int 0, .ref 3]), .inl (0, 200, .inl (fun _ => 0)), .inl (0, 5, .inl (fun _ => 0)), .inr (8, [.ref 5]), .inl (0, 42, .inl (fun _ => 0)), .inr (1, [.null, .null])] [.inr (11, [.ref 1, .ref 4, .null, .null, .null, .null, .null, .null, .null, .null, .null, .null, .long 0]), .inr (9, [.ref 2, .int 0, .int 0, .int 0, .int 0, .int 0, .ref 3]), .inl (0, 200, .inl (fun _ => 0)), .inl (0, 5, .inl (fun _ => 0)), .inr (8, [.ref 5]), .inl (0, 42, .inl (fun _ => 0)), .inr (1, [.ref 7, .ref 8]), .inl (0, 6, .inl (fun _ => 0)), .inl (0, 8, .inl (fun _ => 0))] := by
  refine zk_Ameet (n := 0) (lv := [some (.ref 6)]) zpn_X1 rfl rfl (Nat.le_of_ble_eq_true rfl) ?_
  refine zk_Aaload_n (i := 0) dX1_init_0 rfl rfl ?_
  refine zk_Aobj dX1_init_1 zob_X1 zo_obj (Nat.le_of_ble_eq_true rfl) ?_
  refine zk_Aaload_n (i := 0) dX1_init_4 rfl rfl ?_
  refine zk_Abipush dX1_init_5 zkb_6 ?_
  refine zk_AnewaI 6 dX1_init_7 za_int (by decide) (by decide) (by decide) (Nat.le_of_ble_eq_true rfl) rfl (Nat.le_of_ble_eq_true rfl) (Nat.le_of_ble_eq_true rfl) ?_
  refine zk_AputF 6 1 0 dX1_init_9 zzf_X1_9 rfl (Nat.le_of_ble_eq_true rfl) (fun _ => rfl) (fun _ => rfl) rfl ?_
  refine zk_Aaload_n (i := 0) dX1_init_12 rfl rfl ?_
  refine zk_Abipush dX1_init_13 zkb_8 ?_
  refine zk_AnewaI 8 dX1_init_15 za_int (by decide) (by decide) (by decide) (Nat.le_of_ble_eq_true rfl) rfl (Nat.le_of_ble_eq_true rfl) (Nat.le_of_ble_eq_true rfl) ?_
  refine zk_AputF 6 1 1 dX1_init_17 zzf_X1_15 rfl (Nat.le_of_ble_eq_true rfl) (fun _ => rfl) (fun _ => rfl) rfl ?_
  exact zk_Aret dX1_init_20 rfl rfl rfl rfl
set_option maxRecDepth 100000 in
set_option maxHeartbeats 4000000 in
theorem zI_Past_9 : zk_XA 0 11 430 zY_X5_init [.ref 9] [.inr (11, [.ref 1, .ref 4, .ref 6, .null, .null, .null, .null, .null, .null, .null, .null, .null, .long 0]), .inr (9, [.ref 2, .int 0, .int 0, .int 0, .int 0, .int 0, .ref 3]), .inl (0, 200, .inl (fun _ => 0)), .inl (0, 5, .inl (fun _ => 0)), .inr (8, [.ref 5]), .inl (0, 42, .inl (fun _ => 0)), .inr (1, [.ref 7, .ref 8]), .inl (0, 6, .inl (fun _ => 0)), .inl (0, 8, .inl (fun _ => 0)), .inr (5, [.null, .int 0, .int 0])] [.inr (11, [.ref 1, .ref 4, .ref 6, .null, .null, .null, .null, .null, .null, .null, .null, .null, .long 0]), .inr (9, [.ref 2, .int 0, .int 0, .int 0, .int 0, .int 0, .ref 3]), .inl (0, 200, .inl (fun _ => 0)), .inl (0, 5, .inl (fun _ => 0)), .inr (8, [.ref 5]), .inl (0, 42, .inl (fun _ => 0)), .inr (1, [.ref 7, .ref 8]), .inl (0, 6, .inl (fun _ => 0)), .inl (0, 8, .inl (fun _ => 0)), .inr (5, [.ref 10, .int 0, .int 0]), .inl (3, 10, .inr (.inr (.inr (.inr (fun i => if i < 10 then some (zSX.2.2 10 i) else none))))), .inl (0, 42, .inl (fun _ => 0)), .inl (0, 42, .inl (fun _ => 0)), .inl (0, 42, .inl (fun _ => 0)), .inl (0, 42, .inl (fun _ => 0)), .inl (0, 42, .inl (fun _ => 0)), .inl (0, 42, .inl (fun _ => 0)), .inl (0, 42, .inl (fun _ => 0)), .inl (0, 42, .inl (fun _ => 0)), .inl (0, 42, .inl (fun _ => 0)), .inl (0, 42, .inl (fun _ => 0))] := by
  refine zk_Ameet (n := 0) (lv := [some (.ref 9)]) zpn_X5 rfl rfl (Nat.le_of_ble_eq_true rfl) ?_
  refine zk_Aaload_n (i := 0) dX5_init_0 rfl rfl ?_
  refine zk_Aobj dX5_init_1 zob_X5 zo_obj (Nat.le_of_ble_eq_true rfl) ?_
  refine zk_Aaload_n (i := 0) dX5_init_4 rfl rfl ?_
  refine zk_Abipush dX5_init_5 zkb_10 ?_
  refine zk_Abipush dX5_init_7 zkb_42 ?_
  refine zk_Amulti 10 42 (zSX.2.2 10) dX5_init_9 zcl_X5_11 za_int (by decide) (by decide) (by decide) (by decide) (by decide) (by decide) (by decide) (Nat.le_of_ble_eq_true rfl) rfl (Nat.le_of_ble_eq_true rfl) (Nat.le_of_ble_eq_true rfl) ?_
  refine zk_AputF 9 5 0 dX5_init_13 zzf_X5_13 rfl (Nat.le_of_ble_eq_true rfl) (fun _ => rfl) (fun _ => rfl) rfl ?_
  refine zk_Aaload_n (i := 0) dX5_init_16 rfl rfl ?_
  refine zk_Aiconst dX5_init_17 zki_0 ?_
  refine zk_Aput 9 5 1 dX5_init_18 zzp_X5_18 rfl (Nat.le_of_ble_eq_true rfl) (fun _ => rfl) (fun _ => rfl) rfl ?_
  refine zk_Aaload_n (i := 0) dX5_init_21 rfl rfl ?_
  refine zk_Aiconst dX5_init_22 zki_0 ?_
  refine zk_Aput 9 5 2 dX5_init_23 zzp_X5_22 rfl (Nat.le_of_ble_eq_true rfl) (fun _ => rfl) (fun _ => rfl) rfl ?_
  exact zk_Aret dX5_init_26 rfl rfl rfl rfl
set_option maxRecDepth 100000 in
set_option maxHeartbeats 4000000 in
theorem zI_Album_21 : zk_XA 0 4 88 zY_X0_init [.ref 21] [.inr (11, [.ref 1, .ref 4, .ref 6, .ref 9, .null, .null, .null, .null, .null, .null, .null, .null, .long 0]), .inr (9, [.ref 2, .int 0, .int 0, .int 0, .int 0, .int 0, .ref 3]), .inl (0, 200, .inl (fun _ => 0)), .inl (0, 5, .inl (fun _ => 0)), .inr (8, [.ref 5]), .inl (0, 42, .inl (fun _ => 0)), .inr (1, [.ref 7, .ref 8]), .inl (0, 6, .inl (fun _ => 0)), .inl (0, 8, .inl (fun _ => 0)), .inr (5, [.ref 10, .int 0, .int 0]), .inl (3, 10, .inr (.inr (.inr (.inr (fun i => if i < 10 then some (zSX.2.2 10 i) else none))))), .inl (0, 42, .inl (fun _ => 0)), .inl (0, 42, .inl (fun _ => 0)), .inl (0, 42, .inl (fun _ => 0)), .inl (0, 42, .inl (fun _ => 0)), .inl (0, 42, .inl (fun _ => 0)), .inl (0, 42, .inl (fun _ => 0)), .inl (0, 42, .inl (fun _ => 0)), .inl (0, 42, .inl (fun _ => 0)), .inl (0, 42, .inl (fun _ => 0)), .inl (0, 42, .inl (fun _ => 0)), .inr (0, [.null, .null])] [.inr (11, [.ref 1, .ref 4, .ref 6, .ref 9, .null, .null, .null, .null, .null, .null, .null, .null, .long 0]), .inr (9, [.ref 2, .int 0, .int 0, .int 0, .int 0, .int 0, .ref 3]), .inl (0, 200, .inl (fun _ => 0)), .inl (0, 5, .inl (fun _ => 0)), .inr (8, [.ref 5]), .inl (0, 42, .inl (fun _ => 0)), .inr (1, [.ref 7, .ref 8]), .inl (0, 6, .inl (fun _ => 0)), .inl (0, 8, .inl (fun _ => 0)), .inr (5, [.ref 10, .int 0, .int 0]), .inl (3, 10, .inr (.inr (.inr (.inr (fun i => if i < 10 then some (zSX.2.2 10 i) else none))))), .inl (0, 42, .inl (fun _ => 0)), .inl (0, 42, .inl (fun _ => 0)), .inl (0, 42, .inl (fun _ => 0)), .inl (0, 42, .inl (fun _ => 0)), .inl (0, 42, .inl (fun _ => 0)), .inl (0, 42, .inl (fun _ => 0)), .inl (0, 42, .inl (fun _ => 0)), .inl (0, 42, .inl (fun _ => 0)), .inl (0, 42, .inl (fun _ => 0)), .inl (0, 42, .inl (fun _ => 0)), .inr (0, [.ref 22, .ref 25]), .inl (3, 2, .inr (.inr (.inr (.inr (fun i => if i < 2 then some (zSX.2.2 22 i) else none))))), .inl (0, 42, .inl (fun _ => 0)), .inl (0, 42, .inl (fun _ => 0)), .inl (1, 2, .inl (fun _ => 0))] := by
  refine zk_Ameet (n := 0) (lv := [some (.ref 21)]) zpn_X0 rfl rfl (Nat.le_of_ble_eq_true rfl) ?_
  refine zk_Aaload_n (i := 0) dX0_init_0 rfl rfl ?_
  refine zk_Aobj dX0_init_1 zob_X0 zo_obj (Nat.le_of_ble_eq_true rfl) ?_
  refine zk_Aaload_n (i := 0) dX0_init_4 rfl rfl ?_
  refine zk_Aiconst dX0_init_5 zki_2 ?_
  refine zk_Abipush dX0_init_6 zkb_42 ?_
  refine zk_Amulti 2 42 (zSX.2.2 22) dX0_init_8 zcl_X0_11 za_int (by decide) (by decide) (by decide) (by decide) (by decide) (by decide) (by decide) (Nat.le_of_ble_eq_true rfl) rfl (Nat.le_of_ble_eq_true rfl) (Nat.le_of_ble_eq_true rfl) ?_
  refine zk_AputF 21 0 0 dX0_init_12 zzf_X0_13 rfl (Nat.le_of_ble_eq_true rfl) (fun _ => rfl) (fun _ => rfl) rfl ?_
  refine zk_Aaload_n (i := 0) dX0_init_15 rfl rfl ?_
  refine zk_Aiconst dX0_init_16 zki_2 ?_
  refine zk_AnewaZ 2 dX0_init_17 za_boolean (by decide) (by decide) (by decide) (Nat.le_of_ble_eq_true rfl) rfl (Nat.le_of_ble_eq_true rfl) (Nat.le_of_ble_eq_true rfl) ?_
  refine zk_AputF 21 0 1 dX0_init_19 zzf_X0_18 rfl (Nat.le_of_ble_eq_true rfl) (fun _ => rfl) (fun _ => rfl) rfl ?_
  exact zk_Aret dX0_init_22 rfl rfl rfl rfl
set_option maxRecDepth 100000 in
set_option maxHeartbeats 4000000 in
theorem zI_Rot_26 : zk_XA 0 3 18 zY_X7_init [.ref 26] [.inr (11, [.ref 1, .ref 4, .ref 6, .ref 9, .ref 21, .null, .null, .null, .null, .null, .null, .null, .long 0]), .inr (9, [.ref 2, .int 0, .int 0, .int 0, .int 0, .int 0, .ref 3]), .inl (0, 200, .inl (fun _ => 0)), .inl (0, 5, .inl (fun _ => 0)), .inr (8, [.ref 5]), .inl (0, 42, .inl (fun _ => 0)), .inr (1, [.ref 7, .ref 8]), .inl (0, 6, .inl (fun _ => 0)), .inl (0, 8, .inl (fun _ => 0)), .inr (5, [.ref 10, .int 0, .int 0]), .inl (3, 10, .inr (.inr (.inr (.inr (fun i => if i < 10 then some (zSX.2.2 10 i) else none))))), .inl (0, 42, .inl (fun _ => 0)), .inl (0, 42, .inl (fun _ => 0)), .inl (0, 42, .inl (fun _ => 0)), .inl (0, 42, .inl (fun _ => 0)), .inl (0, 42, .inl (fun _ => 0)), .inl (0, 42, .inl (fun _ => 0)), .inl (0, 42, .inl (fun _ => 0)), .inl (0, 42, .inl (fun _ => 0)), .inl (0, 42, .inl (fun _ => 0)), .inl (0, 42, .inl (fun _ => 0)), .inr (0, [.ref 22, .ref 25]), .inl (3, 2, .inr (.inr (.inr (.inr (fun i => if i < 2 then some (zSX.2.2 22 i) else none))))), .inl (0, 42, .inl (fun _ => 0)), .inl (0, 42, .inl (fun _ => 0)), .inl (1, 2, .inl (fun _ => 0)), .inr (7, [.int 0, .int 0, .int 0, .null, .null, .null])] [.inr (11, [.ref 1, .ref 4, .ref 6, .ref 9, .ref 21, .null, .null, .null, .null, .null, .null, .null, .long 0]), .inr (9, [.ref 2, .int 0, .int 0, .int 0, .int 0, .int 0, .ref 3]), .inl (0, 200, .inl (fun _ => 0)), .inl (0, 5, .inl (fun _ => 0)), .inr (8, [.ref 5]), .inl (0, 42, .inl (fun _ => 0)), .inr (1, [.ref 7, .ref 8]), .inl (0, 6, .inl (fun _ => 0)), .inl (0, 8, .inl (fun _ => 0)), .inr (5, [.ref 10, .int 0, .int 0]), .inl (3, 10, .inr (.inr (.inr (.inr (fun i => if i < 10 then some (zSX.2.2 10 i) else none))))), .inl (0, 42, .inl (fun _ => 0)), .inl (0, 42, .inl (fun _ => 0)), .inl (0, 42, .inl (fun _ => 0)), .inl (0, 42, .inl (fun _ => 0)), .inl (0, 42, .inl (fun _ => 0)), .inl (0, 42, .inl (fun _ => 0)), .inl (0, 42, .inl (fun _ => 0)), .inl (0, 42, .inl (fun _ => 0)), .inl (0, 42, .inl (fun _ => 0)), .inl (0, 42, .inl (fun _ => 0)), .inr (0, [.ref 22, .ref 25]), .inl (3, 2, .inr (.inr (.inr (.inr (fun i => if i < 2 then some (zSX.2.2 22 i) else none))))), .inl (0, 42, .inl (fun _ => 0)), .inl (0, 42, .inl (fun _ => 0)), .inl (1, 2, .inl (fun _ => 0)), .inr (7, [.int 0, .int (-9), .int (-9), .ref 27, .ref 28, .ref 29]), .inl (0, 6, .inl (fun _ => 0)), .inl (0, 6, .inl (fun _ => 0)), .inl (0, 6, .inl (fun _ => 0))] := by
  refine zk_Ameet (n := 0) (lv := [some (.ref 26)]) zpn_X7 rfl rfl (Nat.le_of_ble_eq_true rfl) ?_
  refine zk_Aaload_n (i := 0) dX7_init_0 rfl rfl ?_
  refine zk_Aobj dX7_init_1 zob_X7 zo_obj (Nat.le_of_ble_eq_true rfl) ?_
  refine zk_Aaload_n (i := 0) dX7_init_4 rfl rfl ?_
  refine zk_Aiconst dX7_init_5 zki_0 ?_
  refine zk_Aput 26 7 0 dX7_init_6 zzp_X7_9 rfl (Nat.le_of_ble_eq_true rfl) (fun _ => rfl) (fun _ => rfl) rfl ?_
  refine zk_Aaload_n (i := 0) dX7_init_9 rfl rfl ?_
  refine zk_Abipush dX7_init_10 zkb_m9 ?_
  refine zk_Aput 26 7 1 dX7_init_12 zzp_X7_15 rfl (Nat.le_of_ble_eq_true rfl) (fun _ => rfl) (fun _ => rfl) rfl ?_
  refine zk_Aaload_n (i := 0) dX7_init_15 rfl rfl ?_
  refine zk_Abipush dX7_init_16 zkb_m9 ?_
  refine zk_Aput 26 7 2 dX7_init_18 zzp_X7_18 rfl (Nat.le_of_ble_eq_true rfl) (fun _ => rfl) (fun _ => rfl) rfl ?_
  refine zk_Aaload_n (i := 0) dX7_init_21 rfl rfl ?_
  refine zk_Abipush dX7_init_22 zkb_6 ?_
  refine zk_AnewaI 6 dX7_init_24 za_int (by decide) (by decide) (by decide) (Nat.le_of_ble_eq_true rfl) rfl (Nat.le_of_ble_eq_true rfl) (Nat.le_of_ble_eq_true rfl) ?_
  refine zk_AputF 26 7 3 dX7_init_26 zzf_X7_21 rfl (Nat.le_of_ble_eq_true rfl) (fun _ => rfl) (fun _ => rfl) rfl ?_
  refine zk_Aaload_n (i := 0) dX7_init_29 rfl rfl ?_
  refine zk_Abipush dX7_init_30 zkb_6 ?_
  refine zk_AnewaI 6 dX7_init_32 za_int (by decide) (by decide) (by decide) (Nat.le_of_ble_eq_true rfl) rfl (Nat.le_of_ble_eq_true rfl) (Nat.le_of_ble_eq_true rfl) ?_
  refine zk_AputF 26 7 4 dX7_init_34 zzf_X7_25 rfl (Nat.le_of_ble_eq_true rfl) (fun _ => rfl) (fun _ => rfl) rfl ?_
  refine zk_Aaload_n (i := 0) dX7_init_37 rfl rfl ?_
  refine zk_Abipush dX7_init_38 zkb_6 ?_
  refine zk_AnewaI 6 dX7_init_40 za_int (by decide) (by decide) (by decide) (Nat.le_of_ble_eq_true rfl) rfl (Nat.le_of_ble_eq_true rfl) (Nat.le_of_ble_eq_true rfl) ?_
  refine zk_AputF 26 7 5 dX7_init_42 zzf_X7_28 rfl (Nat.le_of_ble_eq_true rfl) (fun _ => rfl) (fun _ => rfl) rfl ?_
  exact zk_Aret dX7_init_45 rfl rfl rfl rfl
set_option maxRecDepth 100000 in
set_option maxHeartbeats 4000000 in
theorem zI_Burden_31 : zk_XA 0 2 14 zY_X1_init [.ref 31] [.inr (11, [.ref 1, .ref 4, .ref 6, .ref 9, .ref 21, .ref 26, .null, .null, .null, .null, .null, .null, .long 0]), .inr (9, [.ref 2, .int 0, .int 0, .int 0, .int 0, .int 0, .ref 3]), .inl (0, 200, .inl (fun _ => 0)), .inl (0, 5, .inl (fun _ => 0)), .inr (8, [.ref 5]), .inl (0, 42, .inl (fun _ => 0)), .inr (1, [.ref 7, .ref 8]), .inl (0, 6, .inl (fun _ => 0)), .inl (0, 8, .inl (fun _ => 0)), .inr (5, [.ref 10, .int 0, .int 0]), .inl (3, 10, .inr (.inr (.inr (.inr (fun i => if i < 10 then some (zSX.2.2 10 i) else none))))), .inl (0, 42, .inl (fun _ => 0)), .inl (0, 42, .inl (fun _ => 0)), .inl (0, 42, .inl (fun _ => 0)), .inl (0, 42, .inl (fun _ => 0)), .inl (0, 42, .inl (fun _ => 0)), .inl (0, 42, .inl (fun _ => 0)), .inl (0, 42, .inl (fun _ => 0)), .inl (0, 42, .inl (fun _ => 0)), .inl (0, 42, .inl (fun _ => 0)), .inl (0, 42, .inl (fun _ => 0)), .inr (0, [.ref 22, .ref 25]), .inl (3, 2, .inr (.inr (.inr (.inr (fun i => if i < 2 then some (zSX.2.2 22 i) else none))))), .inl (0, 42, .inl (fun _ => 0)), .inl (0, 42, .inl (fun _ => 0)), .inl (1, 2, .inl (fun _ => 0)), .inr (7, [.int 0, .int (-9), .int (-9), .ref 27, .ref 28, .ref 29]), .inl (0, 6, .inl (fun _ => 0)), .inl (0, 6, .inl (fun _ => 0)), .inl (0, 6, .inl (fun _ => 0)), .inr (6, [.null, .null, .null, .null, .null, .int 0]), .inr (1, [.null, .null])] [.inr (11, [.ref 1, .ref 4, .ref 6, .ref 9, .ref 21, .ref 26, .null, .null, .null, .null, .null, .null, .long 0]), .inr (9, [.ref 2, .int 0, .int 0, .int 0, .int 0, .int 0, .ref 3]), .inl (0, 200, .inl (fun _ => 0)), .inl (0, 5, .inl (fun _ => 0)), .inr (8, [.ref 5]), .inl (0, 42, .inl (fun _ => 0)), .inr (1, [.ref 7, .ref 8]), .inl (0, 6, .inl (fun _ => 0)), .inl (0, 8, .inl (fun _ => 0)), .inr (5, [.ref 10, .int 0, .int 0]), .inl (3, 10, .inr (.inr (.inr (.inr (fun i => if i < 10 then some (zSX.2.2 10 i) else none))))), .inl (0, 42, .inl (fun _ => 0)), .inl (0, 42, .inl (fun _ => 0)), .inl (0, 42, .inl (fun _ => 0)), .inl (0, 42, .inl (fun _ => 0)), .inl (0, 42, .inl (fun _ => 0)), .inl (0, 42, .inl (fun _ => 0)), .inl (0, 42, .inl (fun _ => 0)), .inl (0, 42, .inl (fun _ => 0)), .inl (0, 42, .inl (fun _ => 0)), .inl (0, 42, .inl (fun _ => 0)), .inr (0, [.ref 22, .ref 25]), .inl (3, 2, .inr (.inr (.inr (.inr (fun i => if i < 2 then some (zSX.2.2 22 i) else none))))), .inl (0, 42, .inl (fun _ => 0)), .inl (0, 42, .inl (fun _ => 0)), .inl (1, 2, .inl (fun _ => 0)), .inr (7, [.int 0, .int (-9), .int (-9), .ref 27, .ref 28, .ref 29]), .inl (0, 6, .inl (fun _ => 0)), .inl (0, 6, .inl (fun _ => 0)), .inl (0, 6, .inl (fun _ => 0)), .inr (6, [.null, .null, .null, .null, .null, .int 0]), .inr (1, [.ref 32, .ref 33]), .inl (0, 6, .inl (fun _ => 0)), .inl (0, 8, .inl (fun _ => 0))] := by
  refine zk_Ameet (n := 0) (lv := [some (.ref 31)]) zpn_X1 rfl rfl (Nat.le_of_ble_eq_true rfl) ?_
  refine zk_Aaload_n (i := 0) dX1_init_0 rfl rfl ?_
  refine zk_Aobj dX1_init_1 zob_X1 zo_obj (Nat.le_of_ble_eq_true rfl) ?_
  refine zk_Aaload_n (i := 0) dX1_init_4 rfl rfl ?_
  refine zk_Abipush dX1_init_5 zkb_6 ?_
  refine zk_AnewaI 6 dX1_init_7 za_int (by decide) (by decide) (by decide) (Nat.le_of_ble_eq_true rfl) rfl (Nat.le_of_ble_eq_true rfl) (Nat.le_of_ble_eq_true rfl) ?_
  refine zk_AputF 31 1 0 dX1_init_9 zzf_X1_9 rfl (Nat.le_of_ble_eq_true rfl) (fun _ => rfl) (fun _ => rfl) rfl ?_
  refine zk_Aaload_n (i := 0) dX1_init_12 rfl rfl ?_
  refine zk_Abipush dX1_init_13 zkb_8 ?_
  refine zk_AnewaI 8 dX1_init_15 za_int (by decide) (by decide) (by decide) (Nat.le_of_ble_eq_true rfl) rfl (Nat.le_of_ble_eq_true rfl) (Nat.le_of_ble_eq_true rfl) ?_
  refine zk_AputF 31 1 1 dX1_init_17 zzf_X1_15 rfl (Nat.le_of_ble_eq_true rfl) (fun _ => rfl) (fun _ => rfl) rfl ?_
  exact zk_Aret dX1_init_20 rfl rfl rfl rfl
set_option maxRecDepth 100000 in
set_option maxHeartbeats 4000000 in
theorem zI_Planner_30 : zk_XA 1 7 37 zY_X6_init [.ref 30] [.inr (11, [.ref 1, .ref 4, .ref 6, .ref 9, .ref 21, .ref 26, .null, .null, .null, .null, .null, .null, .long 0]), .inr (9, [.ref 2, .int 0, .int 0, .int 0, .int 0, .int 0, .ref 3]), .inl (0, 200, .inl (fun _ => 0)), .inl (0, 5, .inl (fun _ => 0)), .inr (8, [.ref 5]), .inl (0, 42, .inl (fun _ => 0)), .inr (1, [.ref 7, .ref 8]), .inl (0, 6, .inl (fun _ => 0)), .inl (0, 8, .inl (fun _ => 0)), .inr (5, [.ref 10, .int 0, .int 0]), .inl (3, 10, .inr (.inr (.inr (.inr (fun i => if i < 10 then some (zSX.2.2 10 i) else none))))), .inl (0, 42, .inl (fun _ => 0)), .inl (0, 42, .inl (fun _ => 0)), .inl (0, 42, .inl (fun _ => 0)), .inl (0, 42, .inl (fun _ => 0)), .inl (0, 42, .inl (fun _ => 0)), .inl (0, 42, .inl (fun _ => 0)), .inl (0, 42, .inl (fun _ => 0)), .inl (0, 42, .inl (fun _ => 0)), .inl (0, 42, .inl (fun _ => 0)), .inl (0, 42, .inl (fun _ => 0)), .inr (0, [.ref 22, .ref 25]), .inl (3, 2, .inr (.inr (.inr (.inr (fun i => if i < 2 then some (zSX.2.2 22 i) else none))))), .inl (0, 42, .inl (fun _ => 0)), .inl (0, 42, .inl (fun _ => 0)), .inl (1, 2, .inl (fun _ => 0)), .inr (7, [.int 0, .int (-9), .int (-9), .ref 27, .ref 28, .ref 29]), .inl (0, 6, .inl (fun _ => 0)), .inl (0, 6, .inl (fun _ => 0)), .inl (0, 6, .inl (fun _ => 0)), .inr (6, [.null, .null, .null, .null, .null, .int 0])] [.inr (11, [.ref 1, .ref 4, .ref 6, .ref 9, .ref 21, .ref 26, .null, .null, .null, .null, .null, .null, .long 0]), .inr (9, [.ref 2, .int 0, .int 0, .int 0, .int 0, .int 0, .ref 3]), .inl (0, 200, .inl (fun _ => 0)), .inl (0, 5, .inl (fun _ => 0)), .inr (8, [.ref 5]), .inl (0, 42, .inl (fun _ => 0)), .inr (1, [.ref 7, .ref 8]), .inl (0, 6, .inl (fun _ => 0)), .inl (0, 8, .inl (fun _ => 0)), .inr (5, [.ref 10, .int 0, .int 0]), .inl (3, 10, .inr (.inr (.inr (.inr (fun i => if i < 10 then some (zSX.2.2 10 i) else none))))), .inl (0, 42, .inl (fun _ => 0)), .inl (0, 42, .inl (fun _ => 0)), .inl (0, 42, .inl (fun _ => 0)), .inl (0, 42, .inl (fun _ => 0)), .inl (0, 42, .inl (fun _ => 0)), .inl (0, 42, .inl (fun _ => 0)), .inl (0, 42, .inl (fun _ => 0)), .inl (0, 42, .inl (fun _ => 0)), .inl (0, 42, .inl (fun _ => 0)), .inl (0, 42, .inl (fun _ => 0)), .inr (0, [.ref 22, .ref 25]), .inl (3, 2, .inr (.inr (.inr (.inr (fun i => if i < 2 then some (zSX.2.2 22 i) else none))))), .inl (0, 42, .inl (fun _ => 0)), .inl (0, 42, .inl (fun _ => 0)), .inl (1, 2, .inl (fun _ => 0)), .inr (7, [.int 0, .int (-9), .int (-9), .ref 27, .ref 28, .ref 29]), .inl (0, 6, .inl (fun _ => 0)), .inl (0, 6, .inl (fun _ => 0)), .inl (0, 6, .inl (fun _ => 0)), .inr (6, [.ref 31, .ref 34, .ref 35, .ref 36, .ref 37, .int (-1)]), .inr (1, [.ref 32, .ref 33]), .inl (0, 6, .inl (fun _ => 0)), .inl (0, 8, .inl (fun _ => 0)), .inl (0, 5, .inl (fun _ => 0)), .inl (0, 6, .inl (fun _ => 0)), .inl (0, 5, .inl (fun _ => 0)), .inl (0, 5, .inl (fun _ => 0))] := by
  refine zk_Ameet (n := 0) (lv := [some (.ref 30)]) zpn_X6 rfl rfl (Nat.le_of_ble_eq_true rfl) ?_
  refine zk_Aaload_n (i := 0) dX6_init_0 rfl rfl ?_
  refine zk_Aobj dX6_init_1 zob_X6 zo_obj (Nat.le_of_ble_eq_true rfl) ?_
  refine zk_Aaload_n (i := 0) dX6_init_4 rfl rfl ?_
  refine zk_Anew 1 (fs := [.null, .null]) dX6_init_5 zk_ok1 zn_X6_9 zdf_X1 (by intro k h; simp at h) (Nat.le_of_ble_eq_true rfl) rfl (Nat.le_of_ble_eq_true rfl) (Nat.le_of_ble_eq_true rfl) ?_
  refine zk_Adup dX6_init_8 rfl ?_
  refine zk_Acall zY_X1_init 31 dX6_init_9 zl_X1_init zci_X6_11 rfl rfl zI_Burden_31 (Nat.le_of_ble_eq_true rfl) (Nat.le_of_ble_eq_true rfl) rfl (Nat.le_of_ble_eq_true rfl) (Nat.le_of_ble_eq_true rfl) ?_
  refine zk_AputF 30 6 0 dX6_init_12 zzf_X6_12 rfl (Nat.le_of_ble_eq_true rfl) (fun _ => rfl) (fun _ => rfl) rfl ?_
  refine zk_Aaload_n (i := 0) dX6_init_15 rfl rfl ?_
  refine zk_Aiconst dX6_init_16 zki_5 ?_
  refine zk_AnewaI 5 dX6_init_17 za_int (by decide) (by decide) (by decide) (Nat.le_of_ble_eq_true rfl) rfl (Nat.le_of_ble_eq_true rfl) (Nat.le_of_ble_eq_true rfl) ?_
  refine zk_AputF 30 6 1 dX6_init_19 zzf_X6_18 rfl (Nat.le_of_ble_eq_true rfl) (fun _ => rfl) (fun _ => rfl) rfl ?_
  refine zk_Aaload_n (i := 0) dX6_init_22 rfl rfl ?_
  refine zk_Abipush dX6_init_23 zkb_6 ?_
  refine zk_AnewaI 6 dX6_init_25 za_int (by decide) (by decide) (by decide) (Nat.le_of_ble_eq_true rfl) rfl (Nat.le_of_ble_eq_true rfl) (Nat.le_of_ble_eq_true rfl) ?_
  refine zk_AputF 30 6 2 dX6_init_27 zzf_X6_22 rfl (Nat.le_of_ble_eq_true rfl) (fun _ => rfl) (fun _ => rfl) rfl ?_
  refine zk_Aaload_n (i := 0) dX6_init_30 rfl rfl ?_
  refine zk_Aiconst dX6_init_31 zki_5 ?_
  refine zk_AnewaI 5 dX6_init_32 za_int (by decide) (by decide) (by decide) (Nat.le_of_ble_eq_true rfl) rfl (Nat.le_of_ble_eq_true rfl) (Nat.le_of_ble_eq_true rfl) ?_
  refine zk_AputF 30 6 3 dX6_init_34 zzf_X6_25 rfl (Nat.le_of_ble_eq_true rfl) (fun _ => rfl) (fun _ => rfl) rfl ?_
  refine zk_Aaload_n (i := 0) dX6_init_37 rfl rfl ?_
  refine zk_Aiconst dX6_init_38 zki_5 ?_
  refine zk_AnewaI 5 dX6_init_39 za_int (by decide) (by decide) (by decide) (Nat.le_of_ble_eq_true rfl) rfl (Nat.le_of_ble_eq_true rfl) (Nat.le_of_ble_eq_true rfl) ?_
  refine zk_AputF 30 6 4 dX6_init_41 zzf_X6_28 rfl (Nat.le_of_ble_eq_true rfl) (fun _ => rfl) (fun _ => rfl) rfl ?_
  refine zk_Aaload_n (i := 0) dX6_init_44 rfl rfl ?_
  refine zk_Aiconst dX6_init_45 zki_m1 ?_
  refine zk_Aput 30 6 5 dX6_init_46 zzp_X6_31 rfl (Nat.le_of_ble_eq_true rfl) (fun _ => rfl) (fun _ => rfl) rfl ?_
  exact zk_Aret dX6_init_49 rfl rfl rfl rfl
set_option maxRecDepth 100000 in
set_option maxHeartbeats 4000000 in
theorem zI_Scene_39 : zk_XA 0 1 42 zY_X8_init [.ref 39] [.inr (11, [.ref 1, .ref 4, .ref 6, .ref 9, .ref 21, .ref 26, .ref 30, .null, .null, .null, .null, .null, .long 0]), .inr (9, [.ref 2, .int 0, .int 0, .int 0, .int 0, .int 0, .ref 3]), .inl (0, 200, .inl (fun _ => 0)), .inl (0, 5, .inl (fun _ => 0)), .inr (8, [.ref 5]), .inl (0, 42, .inl (fun _ => 0)), .inr (1, [.ref 7, .ref 8]), .inl (0, 6, .inl (fun _ => 0)), .inl (0, 8, .inl (fun _ => 0)), .inr (5, [.ref 10, .int 0, .int 0]), .inl (3, 10, .inr (.inr (.inr (.inr (fun i => if i < 10 then some (zSX.2.2 10 i) else none))))), .inl (0, 42, .inl (fun _ => 0)), .inl (0, 42, .inl (fun _ => 0)), .inl (0, 42, .inl (fun _ => 0)), .inl (0, 42, .inl (fun _ => 0)), .inl (0, 42, .inl (fun _ => 0)), .inl (0, 42, .inl (fun _ => 0)), .inl (0, 42, .inl (fun _ => 0)), .inl (0, 42, .inl (fun _ => 0)), .inl (0, 42, .inl (fun _ => 0)), .inl (0, 42, .inl (fun _ => 0)), .inr (0, [.ref 22, .ref 25]), .inl (3, 2, .inr (.inr (.inr (.inr (fun i => if i < 2 then some (zSX.2.2 22 i) else none))))), .inl (0, 42, .inl (fun _ => 0)), .inl (0, 42, .inl (fun _ => 0)), .inl (1, 2, .inl (fun _ => 0)), .inr (7, [.int 0, .int (-9), .int (-9), .ref 27, .ref 28, .ref 29]), .inl (0, 6, .inl (fun _ => 0)), .inl (0, 6, .inl (fun _ => 0)), .inl (0, 6, .inl (fun _ => 0)), .inr (6, [.ref 31, .ref 34, .ref 35, .ref 36, .ref 37, .int (-1)]), .inr (1, [.ref 32, .ref 33]), .inl (0, 6, .inl (fun _ => 0)), .inl (0, 8, .inl (fun _ => 0)), .inl (0, 5, .inl (fun _ => 0)), .inl (0, 6, .inl (fun _ => 0)), .inl (0, 5, .inl (fun _ => 0)), .inl (0, 5, .inl (fun _ => 0)), .inr (3, [.null]), .inr (8, [.null])] [.inr (11, [.ref 1, .ref 4, .ref 6, .ref 9, .ref 21, .ref 26, .ref 30, .null, .null, .null, .null, .null, .long 0]), .inr (9, [.ref 2, .int 0, .int 0, .int 0, .int 0, .int 0, .ref 3]), .inl (0, 200, .inl (fun _ => 0)), .inl (0, 5, .inl (fun _ => 0)), .inr (8, [.ref 5]), .inl (0, 42, .inl (fun _ => 0)), .inr (1, [.ref 7, .ref 8]), .inl (0, 6, .inl (fun _ => 0)), .inl (0, 8, .inl (fun _ => 0)), .inr (5, [.ref 10, .int 0, .int 0]), .inl (3, 10, .inr (.inr (.inr (.inr (fun i => if i < 10 then some (zSX.2.2 10 i) else none))))), .inl (0, 42, .inl (fun _ => 0)), .inl (0, 42, .inl (fun _ => 0)), .inl (0, 42, .inl (fun _ => 0)), .inl (0, 42, .inl (fun _ => 0)), .inl (0, 42, .inl (fun _ => 0)), .inl (0, 42, .inl (fun _ => 0)), .inl (0, 42, .inl (fun _ => 0)), .inl (0, 42, .inl (fun _ => 0)), .inl (0, 42, .inl (fun _ => 0)), .inl (0, 42, .inl (fun _ => 0)), .inr (0, [.ref 22, .ref 25]), .inl (3, 2, .inr (.inr (.inr (.inr (fun i => if i < 2 then some (zSX.2.2 22 i) else none))))), .inl (0, 42, .inl (fun _ => 0)), .inl (0, 42, .inl (fun _ => 0)), .inl (1, 2, .inl (fun _ => 0)), .inr (7, [.int 0, .int (-9), .int (-9), .ref 27, .ref 28, .ref 29]), .inl (0, 6, .inl (fun _ => 0)), .inl (0, 6, .inl (fun _ => 0)), .inl (0, 6, .inl (fun _ => 0)), .inr (6, [.ref 31, .ref 34, .ref 35, .ref 36, .ref 37, .int (-1)]), .inr (1, [.ref 32, .ref 33]), .inl (0, 6, .inl (fun _ => 0)), .inl (0, 8, .inl (fun _ => 0)), .inl (0, 5, .inl (fun _ => 0)), .inl (0, 6, .inl (fun _ => 0)), .inl (0, 5, .inl (fun _ => 0)), .inl (0, 5, .inl (fun _ => 0)), .inr (3, [.null]), .inr (8, [.ref 40]), .inl (0, 42, .inl (fun _ => 0))] := by
  refine zk_Ameet (n := 0) (lv := [some (.ref 39)]) zpn_X8 rfl rfl (Nat.le_of_ble_eq_true rfl) ?_
  refine zk_Aaload_n (i := 0) dX8_init_0 rfl rfl ?_
  refine zk_Aobj dX8_init_1 zob_X8 zo_obj (Nat.le_of_ble_eq_true rfl) ?_
  refine zk_Aaload_n (i := 0) dX8_init_4 rfl rfl ?_
  refine zk_Abipush dX8_init_5 zkb_42 ?_
  refine zk_AnewaI 42 dX8_init_7 za_int (by decide) (by decide) (by decide) (Nat.le_of_ble_eq_true rfl) rfl (Nat.le_of_ble_eq_true rfl) (Nat.le_of_ble_eq_true rfl) ?_
  refine zk_AputF 39 8 0 dX8_init_9 zzf_X8_11 rfl (Nat.le_of_ble_eq_true rfl) (fun _ => rfl) (fun _ => rfl) rfl ?_
  exact zk_Aret dX8_init_12 rfl rfl rfl rfl
set_option maxRecDepth 100000 in
set_option maxHeartbeats 4000000 in
theorem zI_Forecast_38 : zk_XA 1 2 43 zY_X3_init [.ref 38] [.inr (11, [.ref 1, .ref 4, .ref 6, .ref 9, .ref 21, .ref 26, .ref 30, .null, .null, .null, .null, .null, .long 0]), .inr (9, [.ref 2, .int 0, .int 0, .int 0, .int 0, .int 0, .ref 3]), .inl (0, 200, .inl (fun _ => 0)), .inl (0, 5, .inl (fun _ => 0)), .inr (8, [.ref 5]), .inl (0, 42, .inl (fun _ => 0)), .inr (1, [.ref 7, .ref 8]), .inl (0, 6, .inl (fun _ => 0)), .inl (0, 8, .inl (fun _ => 0)), .inr (5, [.ref 10, .int 0, .int 0]), .inl (3, 10, .inr (.inr (.inr (.inr (fun i => if i < 10 then some (zSX.2.2 10 i) else none))))), .inl (0, 42, .inl (fun _ => 0)), .inl (0, 42, .inl (fun _ => 0)), .inl (0, 42, .inl (fun _ => 0)), .inl (0, 42, .inl (fun _ => 0)), .inl (0, 42, .inl (fun _ => 0)), .inl (0, 42, .inl (fun _ => 0)), .inl (0, 42, .inl (fun _ => 0)), .inl (0, 42, .inl (fun _ => 0)), .inl (0, 42, .inl (fun _ => 0)), .inl (0, 42, .inl (fun _ => 0)), .inr (0, [.ref 22, .ref 25]), .inl (3, 2, .inr (.inr (.inr (.inr (fun i => if i < 2 then some (zSX.2.2 22 i) else none))))), .inl (0, 42, .inl (fun _ => 0)), .inl (0, 42, .inl (fun _ => 0)), .inl (1, 2, .inl (fun _ => 0)), .inr (7, [.int 0, .int (-9), .int (-9), .ref 27, .ref 28, .ref 29]), .inl (0, 6, .inl (fun _ => 0)), .inl (0, 6, .inl (fun _ => 0)), .inl (0, 6, .inl (fun _ => 0)), .inr (6, [.ref 31, .ref 34, .ref 35, .ref 36, .ref 37, .int (-1)]), .inr (1, [.ref 32, .ref 33]), .inl (0, 6, .inl (fun _ => 0)), .inl (0, 8, .inl (fun _ => 0)), .inl (0, 5, .inl (fun _ => 0)), .inl (0, 6, .inl (fun _ => 0)), .inl (0, 5, .inl (fun _ => 0)), .inl (0, 5, .inl (fun _ => 0)), .inr (3, [.null])] [.inr (11, [.ref 1, .ref 4, .ref 6, .ref 9, .ref 21, .ref 26, .ref 30, .null, .null, .null, .null, .null, .long 0]), .inr (9, [.ref 2, .int 0, .int 0, .int 0, .int 0, .int 0, .ref 3]), .inl (0, 200, .inl (fun _ => 0)), .inl (0, 5, .inl (fun _ => 0)), .inr (8, [.ref 5]), .inl (0, 42, .inl (fun _ => 0)), .inr (1, [.ref 7, .ref 8]), .inl (0, 6, .inl (fun _ => 0)), .inl (0, 8, .inl (fun _ => 0)), .inr (5, [.ref 10, .int 0, .int 0]), .inl (3, 10, .inr (.inr (.inr (.inr (fun i => if i < 10 then some (zSX.2.2 10 i) else none))))), .inl (0, 42, .inl (fun _ => 0)), .inl (0, 42, .inl (fun _ => 0)), .inl (0, 42, .inl (fun _ => 0)), .inl (0, 42, .inl (fun _ => 0)), .inl (0, 42, .inl (fun _ => 0)), .inl (0, 42, .inl (fun _ => 0)), .inl (0, 42, .inl (fun _ => 0)), .inl (0, 42, .inl (fun _ => 0)), .inl (0, 42, .inl (fun _ => 0)), .inl (0, 42, .inl (fun _ => 0)), .inr (0, [.ref 22, .ref 25]), .inl (3, 2, .inr (.inr (.inr (.inr (fun i => if i < 2 then some (zSX.2.2 22 i) else none))))), .inl (0, 42, .inl (fun _ => 0)), .inl (0, 42, .inl (fun _ => 0)), .inl (1, 2, .inl (fun _ => 0)), .inr (7, [.int 0, .int (-9), .int (-9), .ref 27, .ref 28, .ref 29]), .inl (0, 6, .inl (fun _ => 0)), .inl (0, 6, .inl (fun _ => 0)), .inl (0, 6, .inl (fun _ => 0)), .inr (6, [.ref 31, .ref 34, .ref 35, .ref 36, .ref 37, .int (-1)]), .inr (1, [.ref 32, .ref 33]), .inl (0, 6, .inl (fun _ => 0)), .inl (0, 8, .inl (fun _ => 0)), .inl (0, 5, .inl (fun _ => 0)), .inl (0, 6, .inl (fun _ => 0)), .inl (0, 5, .inl (fun _ => 0)), .inl (0, 5, .inl (fun _ => 0)), .inr (3, [.ref 39]), .inr (8, [.ref 40]), .inl (0, 42, .inl (fun _ => 0))] := by
  refine zk_Ameet (n := 0) (lv := [some (.ref 38)]) zpn_X3 rfl rfl (Nat.le_of_ble_eq_true rfl) ?_
  refine zk_Aaload_n (i := 0) dX3_init_0 rfl rfl ?_
  refine zk_Aobj dX3_init_1 zob_X3 zo_obj (Nat.le_of_ble_eq_true rfl) ?_
  refine zk_Aaload_n (i := 0) dX3_init_4 rfl rfl ?_
  refine zk_Anew 8 (fs := [.null]) dX3_init_5 zk_ok8 zn_X3_9 zdf_X8 (by intro k h; simp at h) (Nat.le_of_ble_eq_true rfl) rfl (Nat.le_of_ble_eq_true rfl) (Nat.le_of_ble_eq_true rfl) ?_
  refine zk_Adup dX3_init_8 rfl ?_
  refine zk_Acall zY_X8_init 39 dX3_init_9 zl_X8_init zci_X3_11 rfl rfl zI_Scene_39 (Nat.le_of_ble_eq_true rfl) (Nat.le_of_ble_eq_true rfl) rfl (Nat.le_of_ble_eq_true rfl) (Nat.le_of_ble_eq_true rfl) ?_
  refine zk_AputF 38 3 0 dX3_init_12 zzf_X3_12 rfl (Nat.le_of_ble_eq_true rfl) (fun _ => rfl) (fun _ => rfl) rfl ?_
  exact zk_Aret dX3_init_15 rfl rfl rfl rfl
set_option maxRecDepth 100000 in
set_option maxHeartbeats 4000000 in
theorem zI_Chance_41 : zk_XA 0 2 72 zY_X2_init [.ref 41] [.inr (11, [.ref 1, .ref 4, .ref 6, .ref 9, .ref 21, .ref 26, .ref 30, .ref 38, .null, .null, .null, .null, .long 0]), .inr (9, [.ref 2, .int 0, .int 0, .int 0, .int 0, .int 0, .ref 3]), .inl (0, 200, .inl (fun _ => 0)), .inl (0, 5, .inl (fun _ => 0)), .inr (8, [.ref 5]), .inl (0, 42, .inl (fun _ => 0)), .inr (1, [.ref 7, .ref 8]), .inl (0, 6, .inl (fun _ => 0)), .inl (0, 8, .inl (fun _ => 0)), .inr (5, [.ref 10, .int 0, .int 0]), .inl (3, 10, .inr (.inr (.inr (.inr (fun i => if i < 10 then some (zSX.2.2 10 i) else none))))), .inl (0, 42, .inl (fun _ => 0)), .inl (0, 42, .inl (fun _ => 0)), .inl (0, 42, .inl (fun _ => 0)), .inl (0, 42, .inl (fun _ => 0)), .inl (0, 42, .inl (fun _ => 0)), .inl (0, 42, .inl (fun _ => 0)), .inl (0, 42, .inl (fun _ => 0)), .inl (0, 42, .inl (fun _ => 0)), .inl (0, 42, .inl (fun _ => 0)), .inl (0, 42, .inl (fun _ => 0)), .inr (0, [.ref 22, .ref 25]), .inl (3, 2, .inr (.inr (.inr (.inr (fun i => if i < 2 then some (zSX.2.2 22 i) else none))))), .inl (0, 42, .inl (fun _ => 0)), .inl (0, 42, .inl (fun _ => 0)), .inl (1, 2, .inl (fun _ => 0)), .inr (7, [.int 0, .int (-9), .int (-9), .ref 27, .ref 28, .ref 29]), .inl (0, 6, .inl (fun _ => 0)), .inl (0, 6, .inl (fun _ => 0)), .inl (0, 6, .inl (fun _ => 0)), .inr (6, [.ref 31, .ref 34, .ref 35, .ref 36, .ref 37, .int (-1)]), .inr (1, [.ref 32, .ref 33]), .inl (0, 6, .inl (fun _ => 0)), .inl (0, 8, .inl (fun _ => 0)), .inl (0, 5, .inl (fun _ => 0)), .inl (0, 6, .inl (fun _ => 0)), .inl (0, 5, .inl (fun _ => 0)), .inl (0, 5, .inl (fun _ => 0)), .inr (3, [.ref 39]), .inr (8, [.ref 40]), .inl (0, 42, .inl (fun _ => 0)), .inr (2, [.null, .null])] [.inr (11, [.ref 1, .ref 4, .ref 6, .ref 9, .ref 21, .ref 26, .ref 30, .ref 38, .null, .null, .null, .null, .long 0]), .inr (9, [.ref 2, .int 0, .int 0, .int 0, .int 0, .int 0, .ref 3]), .inl (0, 200, .inl (fun _ => 0)), .inl (0, 5, .inl (fun _ => 0)), .inr (8, [.ref 5]), .inl (0, 42, .inl (fun _ => 0)), .inr (1, [.ref 7, .ref 8]), .inl (0, 6, .inl (fun _ => 0)), .inl (0, 8, .inl (fun _ => 0)), .inr (5, [.ref 10, .int 0, .int 0]), .inl (3, 10, .inr (.inr (.inr (.inr (fun i => if i < 10 then some (zSX.2.2 10 i) else none))))), .inl (0, 42, .inl (fun _ => 0)), .inl (0, 42, .inl (fun _ => 0)), .inl (0, 42, .inl (fun _ => 0)), .inl (0, 42, .inl (fun _ => 0)), .inl (0, 42, .inl (fun _ => 0)), .inl (0, 42, .inl (fun _ => 0)), .inl (0, 42, .inl (fun _ => 0)), .inl (0, 42, .inl (fun _ => 0)), .inl (0, 42, .inl (fun _ => 0)), .inl (0, 42, .inl (fun _ => 0)), .inr (0, [.ref 22, .ref 25]), .inl (3, 2, .inr (.inr (.inr (.inr (fun i => if i < 2 then some (zSX.2.2 22 i) else none))))), .inl (0, 42, .inl (fun _ => 0)), .inl (0, 42, .inl (fun _ => 0)), .inl (1, 2, .inl (fun _ => 0)), .inr (7, [.int 0, .int (-9), .int (-9), .ref 27, .ref 28, .ref 29]), .inl (0, 6, .inl (fun _ => 0)), .inl (0, 6, .inl (fun _ => 0)), .inl (0, 6, .inl (fun _ => 0)), .inr (6, [.ref 31, .ref 34, .ref 35, .ref 36, .ref 37, .int (-1)]), .inr (1, [.ref 32, .ref 33]), .inl (0, 6, .inl (fun _ => 0)), .inl (0, 8, .inl (fun _ => 0)), .inl (0, 5, .inl (fun _ => 0)), .inl (0, 6, .inl (fun _ => 0)), .inl (0, 5, .inl (fun _ => 0)), .inl (0, 5, .inl (fun _ => 0)), .inr (3, [.ref 39]), .inr (8, [.ref 40]), .inl (0, 42, .inl (fun _ => 0)), .inr (2, [.ref 42, .ref 43]), .inl (2, 36, .inr (.inl (fun _ => 0))), .inl (2, 36, .inr (.inl (fun _ => 0)))] := by
  refine zk_Ameet (n := 0) (lv := [some (.ref 41)]) zpn_X2 rfl rfl (Nat.le_of_ble_eq_true rfl) ?_
  refine zk_Aaload_n (i := 0) dX2_init_0 rfl rfl ?_
  refine zk_Aobj dX2_init_1 zob_X2 zo_obj (Nat.le_of_ble_eq_true rfl) ?_
  refine zk_Aaload_n (i := 0) dX2_init_4 rfl rfl ?_
  refine zk_Abipush dX2_init_5 zkb_36 ?_
  refine zk_AnewaL 36 dX2_init_7 za_long (by decide) (by decide) (by decide) (Nat.le_of_ble_eq_true rfl) rfl (Nat.le_of_ble_eq_true rfl) (Nat.le_of_ble_eq_true rfl) ?_
  refine zk_AputF 41 2 0 dX2_init_9 zzf_X2_11 rfl (Nat.le_of_ble_eq_true rfl) (fun _ => rfl) (fun _ => rfl) rfl ?_
  refine zk_Aaload_n (i := 0) dX2_init_12 rfl rfl ?_
  refine zk_Abipush dX2_init_13 zkb_36 ?_
  refine zk_AnewaL 36 dX2_init_15 za_long (by decide) (by decide) (by decide) (Nat.le_of_ble_eq_true rfl) rfl (Nat.le_of_ble_eq_true rfl) (Nat.le_of_ble_eq_true rfl) ?_
  refine zk_AputF 41 2 1 dX2_init_17 zzf_X2_15 rfl (Nat.le_of_ble_eq_true rfl) (fun _ => rfl) (fun _ => rfl) rfl ?_
  exact zk_Aret dX2_init_20 rfl rfl rfl rfl
set_option maxRecDepth 100000 in
set_option maxHeartbeats 4000000 in
theorem zI_Laying_44 : zk_XA 0 1 64 zY_X4_init [.ref 44] [.inr (11, [.ref 1, .ref 4, .ref 6, .ref 9, .ref 21, .ref 26, .ref 30, .ref 38, .ref 41, .null, .null, .null, .long 0]), .inr (9, [.ref 2, .int 0, .int 0, .int 0, .int 0, .int 0, .ref 3]), .inl (0, 200, .inl (fun _ => 0)), .inl (0, 5, .inl (fun _ => 0)), .inr (8, [.ref 5]), .inl (0, 42, .inl (fun _ => 0)), .inr (1, [.ref 7, .ref 8]), .inl (0, 6, .inl (fun _ => 0)), .inl (0, 8, .inl (fun _ => 0)), .inr (5, [.ref 10, .int 0, .int 0]), .inl (3, 10, .inr (.inr (.inr (.inr (fun i => if i < 10 then some (zSX.2.2 10 i) else none))))), .inl (0, 42, .inl (fun _ => 0)), .inl (0, 42, .inl (fun _ => 0)), .inl (0, 42, .inl (fun _ => 0)), .inl (0, 42, .inl (fun _ => 0)), .inl (0, 42, .inl (fun _ => 0)), .inl (0, 42, .inl (fun _ => 0)), .inl (0, 42, .inl (fun _ => 0)), .inl (0, 42, .inl (fun _ => 0)), .inl (0, 42, .inl (fun _ => 0)), .inl (0, 42, .inl (fun _ => 0)), .inr (0, [.ref 22, .ref 25]), .inl (3, 2, .inr (.inr (.inr (.inr (fun i => if i < 2 then some (zSX.2.2 22 i) else none))))), .inl (0, 42, .inl (fun _ => 0)), .inl (0, 42, .inl (fun _ => 0)), .inl (1, 2, .inl (fun _ => 0)), .inr (7, [.int 0, .int (-9), .int (-9), .ref 27, .ref 28, .ref 29]), .inl (0, 6, .inl (fun _ => 0)), .inl (0, 6, .inl (fun _ => 0)), .inl (0, 6, .inl (fun _ => 0)), .inr (6, [.ref 31, .ref 34, .ref 35, .ref 36, .ref 37, .int (-1)]), .inr (1, [.ref 32, .ref 33]), .inl (0, 6, .inl (fun _ => 0)), .inl (0, 8, .inl (fun _ => 0)), .inl (0, 5, .inl (fun _ => 0)), .inl (0, 6, .inl (fun _ => 0)), .inl (0, 5, .inl (fun _ => 0)), .inl (0, 5, .inl (fun _ => 0)), .inr (3, [.ref 39]), .inr (8, [.ref 40]), .inl (0, 42, .inl (fun _ => 0)), .inr (2, [.ref 42, .ref 43]), .inl (2, 36, .inr (.inl (fun _ => 0))), .inl (2, 36, .inr (.inl (fun _ => 0))), .inr (4, [.null])] [.inr (11, [.ref 1, .ref 4, .ref 6, .ref 9, .ref 21, .ref 26, .ref 30, .ref 38, .ref 41, .null, .null, .null, .long 0]), .inr (9, [.ref 2, .int 0, .int 0, .int 0, .int 0, .int 0, .ref 3]), .inl (0, 200, .inl (fun _ => 0)), .inl (0, 5, .inl (fun _ => 0)), .inr (8, [.ref 5]), .inl (0, 42, .inl (fun _ => 0)), .inr (1, [.ref 7, .ref 8]), .inl (0, 6, .inl (fun _ => 0)), .inl (0, 8, .inl (fun _ => 0)), .inr (5, [.ref 10, .int 0, .int 0]), .inl (3, 10, .inr (.inr (.inr (.inr (fun i => if i < 10 then some (zSX.2.2 10 i) else none))))), .inl (0, 42, .inl (fun _ => 0)), .inl (0, 42, .inl (fun _ => 0)), .inl (0, 42, .inl (fun _ => 0)), .inl (0, 42, .inl (fun _ => 0)), .inl (0, 42, .inl (fun _ => 0)), .inl (0, 42, .inl (fun _ => 0)), .inl (0, 42, .inl (fun _ => 0)), .inl (0, 42, .inl (fun _ => 0)), .inl (0, 42, .inl (fun _ => 0)), .inl (0, 42, .inl (fun _ => 0)), .inr (0, [.ref 22, .ref 25]), .inl (3, 2, .inr (.inr (.inr (.inr (fun i => if i < 2 then some (zSX.2.2 22 i) else none))))), .inl (0, 42, .inl (fun _ => 0)), .inl (0, 42, .inl (fun _ => 0)), .inl (1, 2, .inl (fun _ => 0)), .inr (7, [.int 0, .int (-9), .int (-9), .ref 27, .ref 28, .ref 29]), .inl (0, 6, .inl (fun _ => 0)), .inl (0, 6, .inl (fun _ => 0)), .inl (0, 6, .inl (fun _ => 0)), .inr (6, [.ref 31, .ref 34, .ref 35, .ref 36, .ref 37, .int (-1)]), .inr (1, [.ref 32, .ref 33]), .inl (0, 6, .inl (fun _ => 0)), .inl (0, 8, .inl (fun _ => 0)), .inl (0, 5, .inl (fun _ => 0)), .inl (0, 6, .inl (fun _ => 0)), .inl (0, 5, .inl (fun _ => 0)), .inl (0, 5, .inl (fun _ => 0)), .inr (3, [.ref 39]), .inr (8, [.ref 40]), .inl (0, 42, .inl (fun _ => 0)), .inr (2, [.ref 42, .ref 43]), .inl (2, 36, .inr (.inl (fun _ => 0))), .inl (2, 36, .inr (.inl (fun _ => 0))), .inr (4, [.ref 45]), .inl (0, 64, .inl (fun _ => 0))] := by
  refine zk_Ameet (n := 0) (lv := [some (.ref 44)]) zpn_X4 rfl rfl (Nat.le_of_ble_eq_true rfl) ?_
  refine zk_Aaload_n (i := 0) dX4_init_0 rfl rfl ?_
  refine zk_Aobj dX4_init_1 zob_X4 zo_obj (Nat.le_of_ble_eq_true rfl) ?_
  refine zk_Aaload_n (i := 0) dX4_init_4 rfl rfl ?_
  refine zk_Abipush dX4_init_5 zkb_64 ?_
  refine zk_AnewaI 64 dX4_init_7 za_int (by decide) (by decide) (by decide) (Nat.le_of_ble_eq_true rfl) rfl (Nat.le_of_ble_eq_true rfl) (Nat.le_of_ble_eq_true rfl) ?_
  refine zk_AputF 44 4 0 dX4_init_9 zzf_X4_9 rfl (Nat.le_of_ble_eq_true rfl) (fun _ => rfl) (fun _ => rfl) rfl ?_
  exact zk_Aret dX4_init_12 rfl rfl rfl rfl
set_option maxRecDepth 100000 in
set_option maxHeartbeats 4000000 in
theorem zI_Tree_46 : zk_XA 0 8 64 zY_X10_init [.ref 46] [.inr (11, [.ref 1, .ref 4, .ref 6, .ref 9, .ref 21, .ref 26, .ref 30, .ref 38, .ref 41, .ref 44, .null, .null, .long 0]), .inr (9, [.ref 2, .int 0, .int 0, .int 0, .int 0, .int 0, .ref 3]), .inl (0, 200, .inl (fun _ => 0)), .inl (0, 5, .inl (fun _ => 0)), .inr (8, [.ref 5]), .inl (0, 42, .inl (fun _ => 0)), .inr (1, [.ref 7, .ref 8]), .inl (0, 6, .inl (fun _ => 0)), .inl (0, 8, .inl (fun _ => 0)), .inr (5, [.ref 10, .int 0, .int 0]), .inl (3, 10, .inr (.inr (.inr (.inr (fun i => if i < 10 then some (zSX.2.2 10 i) else none))))), .inl (0, 42, .inl (fun _ => 0)), .inl (0, 42, .inl (fun _ => 0)), .inl (0, 42, .inl (fun _ => 0)), .inl (0, 42, .inl (fun _ => 0)), .inl (0, 42, .inl (fun _ => 0)), .inl (0, 42, .inl (fun _ => 0)), .inl (0, 42, .inl (fun _ => 0)), .inl (0, 42, .inl (fun _ => 0)), .inl (0, 42, .inl (fun _ => 0)), .inl (0, 42, .inl (fun _ => 0)), .inr (0, [.ref 22, .ref 25]), .inl (3, 2, .inr (.inr (.inr (.inr (fun i => if i < 2 then some (zSX.2.2 22 i) else none))))), .inl (0, 42, .inl (fun _ => 0)), .inl (0, 42, .inl (fun _ => 0)), .inl (1, 2, .inl (fun _ => 0)), .inr (7, [.int 0, .int (-9), .int (-9), .ref 27, .ref 28, .ref 29]), .inl (0, 6, .inl (fun _ => 0)), .inl (0, 6, .inl (fun _ => 0)), .inl (0, 6, .inl (fun _ => 0)), .inr (6, [.ref 31, .ref 34, .ref 35, .ref 36, .ref 37, .int (-1)]), .inr (1, [.ref 32, .ref 33]), .inl (0, 6, .inl (fun _ => 0)), .inl (0, 8, .inl (fun _ => 0)), .inl (0, 5, .inl (fun _ => 0)), .inl (0, 6, .inl (fun _ => 0)), .inl (0, 5, .inl (fun _ => 0)), .inl (0, 5, .inl (fun _ => 0)), .inr (3, [.ref 39]), .inr (8, [.ref 40]), .inl (0, 42, .inl (fun _ => 0)), .inr (2, [.ref 42, .ref 43]), .inl (2, 36, .inr (.inl (fun _ => 0))), .inl (2, 36, .inr (.inl (fun _ => 0))), .inr (4, [.ref 45]), .inl (0, 64, .inl (fun _ => 0)), .inr (10, [.int 0, .int 0, .int 0, .null, .null, .null, .null, .null, .null, .null, .null])] [.inr (11, [.ref 1, .ref 4, .ref 6, .ref 9, .ref 21, .ref 26, .ref 30, .ref 38, .ref 41, .ref 44, .null, .null, .long 0]), .inr (9, [.ref 2, .int 0, .int 0, .int 0, .int 0, .int 0, .ref 3]), .inl (0, 200, .inl (fun _ => 0)), .inl (0, 5, .inl (fun _ => 0)), .inr (8, [.ref 5]), .inl (0, 42, .inl (fun _ => 0)), .inr (1, [.ref 7, .ref 8]), .inl (0, 6, .inl (fun _ => 0)), .inl (0, 8, .inl (fun _ => 0)), .inr (5, [.ref 10, .int 0, .int 0]), .inl (3, 10, .inr (.inr (.inr (.inr (fun i => if i < 10 then some (zSX.2.2 10 i) else none))))), .inl (0, 42, .inl (fun _ => 0)), .inl (0, 42, .inl (fun _ => 0)), .inl (0, 42, .inl (fun _ => 0)), .inl (0, 42, .inl (fun _ => 0)), .inl (0, 42, .inl (fun _ => 0)), .inl (0, 42, .inl (fun _ => 0)), .inl (0, 42, .inl (fun _ => 0)), .inl (0, 42, .inl (fun _ => 0)), .inl (0, 42, .inl (fun _ => 0)), .inl (0, 42, .inl (fun _ => 0)), .inr (0, [.ref 22, .ref 25]), .inl (3, 2, .inr (.inr (.inr (.inr (fun i => if i < 2 then some (zSX.2.2 22 i) else none))))), .inl (0, 42, .inl (fun _ => 0)), .inl (0, 42, .inl (fun _ => 0)), .inl (1, 2, .inl (fun _ => 0)), .inr (7, [.int 0, .int (-9), .int (-9), .ref 27, .ref 28, .ref 29]), .inl (0, 6, .inl (fun _ => 0)), .inl (0, 6, .inl (fun _ => 0)), .inl (0, 6, .inl (fun _ => 0)), .inr (6, [.ref 31, .ref 34, .ref 35, .ref 36, .ref 37, .int (-1)]), .inr (1, [.ref 32, .ref 33]), .inl (0, 6, .inl (fun _ => 0)), .inl (0, 8, .inl (fun _ => 0)), .inl (0, 5, .inl (fun _ => 0)), .inl (0, 6, .inl (fun _ => 0)), .inl (0, 5, .inl (fun _ => 0)), .inl (0, 5, .inl (fun _ => 0)), .inr (3, [.ref 39]), .inr (8, [.ref 40]), .inl (0, 42, .inl (fun _ => 0)), .inr (2, [.ref 42, .ref 43]), .inl (2, 36, .inr (.inl (fun _ => 0))), .inl (2, 36, .inr (.inl (fun _ => 0))), .inr (4, [.ref 45]), .inl (0, 64, .inl (fun _ => 0)), .inr (10, [.int 0, .int 0, .int 0, .ref 47, .ref 48, .ref 49, .ref 50, .ref 51, .ref 52, .ref 53, .ref 54]), .inl (0, 8, .inl (fun _ => 0)), .inl (0, 8, .inl (fun _ => 0)), .inl (0, 8, .inl (fun _ => 0)), .inl (0, 6, .inl (fun _ => 0)), .inl (0, 12, .inl (fun _ => 0)), .inl (0, 12, .inl (fun _ => 0)), .inl (0, 5, .inl (fun _ => 0)), .inl (0, 5, .inl (fun _ => 0))] := by
  refine zk_Ameet (n := 0) (lv := [some (.ref 46)]) zpn_X10 rfl rfl (Nat.le_of_ble_eq_true rfl) ?_
  refine zk_Aaload_n (i := 0) dX10_init_0 rfl rfl ?_
  refine zk_Aobj dX10_init_1 zob_X10 zo_obj (Nat.le_of_ble_eq_true rfl) ?_
  refine zk_Aaload_n (i := 0) dX10_init_4 rfl rfl ?_
  refine zk_Aiconst dX10_init_5 zki_0 ?_
  refine zk_Aput 46 10 0 dX10_init_6 zzp_X10_9 rfl (Nat.le_of_ble_eq_true rfl) (fun _ => rfl) (fun _ => rfl) rfl ?_
  refine zk_Aaload_n (i := 0) dX10_init_9 rfl rfl ?_
  refine zk_Aiconst dX10_init_10 zki_0 ?_
  refine zk_Aput 46 10 1 dX10_init_11 zzp_X10_15 rfl (Nat.le_of_ble_eq_true rfl) (fun _ => rfl) (fun _ => rfl) rfl ?_
  refine zk_Aaload_n (i := 0) dX10_init_14 rfl rfl ?_
  refine zk_Aiconst dX10_init_15 zki_0 ?_
  refine zk_Aput 46 10 2 dX10_init_16 zzp_X10_18 rfl (Nat.le_of_ble_eq_true rfl) (fun _ => rfl) (fun _ => rfl) rfl ?_
  refine zk_Aaload_n (i := 0) dX10_init_19 rfl rfl ?_
  refine zk_Abipush dX10_init_20 zkb_8 ?_
  refine zk_AnewaI 8 dX10_init_22 za_int (by decide) (by decide) (by decide) (Nat.le_of_ble_eq_true rfl) rfl (Nat.le_of_ble_eq_true rfl) (Nat.le_of_ble_eq_true rfl) ?_
  refine zk_AputF 46 10 3 dX10_init_24 zzf_X10_21 rfl (Nat.le_of_ble_eq_true rfl) (fun _ => rfl) (fun _ => rfl) rfl ?_
  refine zk_Aaload_n (i := 0) dX10_init_27 rfl rfl ?_
  refine zk_Abipush dX10_init_28 zkb_8 ?_
  refine zk_AnewaI 8 dX10_init_30 za_int (by decide) (by decide) (by decide) (Nat.le_of_ble_eq_true rfl) rfl (Nat.le_of_ble_eq_true rfl) (Nat.le_of_ble_eq_true rfl) ?_
  refine zk_AputF 46 10 4 dX10_init_32 zzf_X10_25 rfl (Nat.le_of_ble_eq_true rfl) (fun _ => rfl) (fun _ => rfl) rfl ?_
  refine zk_Aaload_n (i := 0) dX10_init_35 rfl rfl ?_
  refine zk_Abipush dX10_init_36 zkb_8 ?_
  refine zk_AnewaI 8 dX10_init_38 za_int (by decide) (by decide) (by decide) (Nat.le_of_ble_eq_true rfl) rfl (Nat.le_of_ble_eq_true rfl) (Nat.le_of_ble_eq_true rfl) ?_
  refine zk_AputF 46 10 5 dX10_init_40 zzf_X10_28 rfl (Nat.le_of_ble_eq_true rfl) (fun _ => rfl) (fun _ => rfl) rfl ?_
  refine zk_Aaload_n (i := 0) dX10_init_43 rfl rfl ?_
  refine zk_Abipush dX10_init_44 zkb_6 ?_
  refine zk_AnewaI 6 dX10_init_46 za_int (by decide) (by decide) (by decide) (Nat.le_of_ble_eq_true rfl) rfl (Nat.le_of_ble_eq_true rfl) (Nat.le_of_ble_eq_true rfl) ?_
  refine zk_AputF 46 10 6 dX10_init_48 zzf_X10_31 rfl (Nat.le_of_ble_eq_true rfl) (fun _ => rfl) (fun _ => rfl) rfl ?_
  refine zk_Aaload_n (i := 0) dX10_init_51 rfl rfl ?_
  refine zk_Abipush dX10_init_52 zkb_12 ?_
  refine zk_AnewaI 12 dX10_init_54 za_int (by decide) (by decide) (by decide) (Nat.le_of_ble_eq_true rfl) rfl (Nat.le_of_ble_eq_true rfl) (Nat.le_of_ble_eq_true rfl) ?_
  refine zk_AputF 46 10 7 dX10_init_56 zzf_X10_34 rfl (Nat.le_of_ble_eq_true rfl) (fun _ => rfl) (fun _ => rfl) rfl ?_
  refine zk_Aaload_n (i := 0) dX10_init_59 rfl rfl ?_
  refine zk_Abipush dX10_init_60 zkb_12 ?_
  refine zk_AnewaI 12 dX10_init_62 za_int (by decide) (by decide) (by decide) (Nat.le_of_ble_eq_true rfl) rfl (Nat.le_of_ble_eq_true rfl) (Nat.le_of_ble_eq_true rfl) ?_
  refine zk_AputF 46 10 8 dX10_init_64 zzf_X10_37 rfl (Nat.le_of_ble_eq_true rfl) (fun _ => rfl) (fun _ => rfl) rfl ?_
  refine zk_Aaload_n (i := 0) dX10_init_67 rfl rfl ?_
  refine zk_Aiconst dX10_init_68 zki_5 ?_
  refine zk_AnewaI 5 dX10_init_69 za_int (by decide) (by decide) (by decide) (Nat.le_of_ble_eq_true rfl) rfl (Nat.le_of_ble_eq_true rfl) (Nat.le_of_ble_eq_true rfl) ?_
  refine zk_AputF 46 10 9 dX10_init_71 zzf_X10_40 rfl (Nat.le_of_ble_eq_true rfl) (fun _ => rfl) (fun _ => rfl) rfl ?_
  refine zk_Aaload_n (i := 0) dX10_init_74 rfl rfl ?_
  refine zk_Aiconst dX10_init_75 zki_5 ?_
  refine zk_AnewaI 5 dX10_init_76 za_int (by decide) (by decide) (by decide) (Nat.le_of_ble_eq_true rfl) rfl (Nat.le_of_ble_eq_true rfl) (Nat.le_of_ble_eq_true rfl) ?_
  refine zk_AputF 46 10 10 dX10_init_78 zzf_X10_43 rfl (Nat.le_of_ble_eq_true rfl) (fun _ => rfl) (fun _ => rfl) rfl ?_
  exact zk_Aret dX10_init_81 rfl rfl rfl rfl
set_option maxRecDepth 100000 in
set_option maxHeartbeats 4000000 in
theorem zI_Tree_55 : zk_XA 0 8 64 zY_X10_init [.ref 55] [.inr (11, [.ref 1, .ref 4, .ref 6, .ref 9, .ref 21, .ref 26, .ref 30, .ref 38, .ref 41, .ref 44, .ref 46, .null, .long 0]), .inr (9, [.ref 2, .int 0, .int 0, .int 0, .int 0, .int 0, .ref 3]), .inl (0, 200, .inl (fun _ => 0)), .inl (0, 5, .inl (fun _ => 0)), .inr (8, [.ref 5]), .inl (0, 42, .inl (fun _ => 0)), .inr (1, [.ref 7, .ref 8]), .inl (0, 6, .inl (fun _ => 0)), .inl (0, 8, .inl (fun _ => 0)), .inr (5, [.ref 10, .int 0, .int 0]), .inl (3, 10, .inr (.inr (.inr (.inr (fun i => if i < 10 then some (zSX.2.2 10 i) else none))))), .inl (0, 42, .inl (fun _ => 0)), .inl (0, 42, .inl (fun _ => 0)), .inl (0, 42, .inl (fun _ => 0)), .inl (0, 42, .inl (fun _ => 0)), .inl (0, 42, .inl (fun _ => 0)), .inl (0, 42, .inl (fun _ => 0)), .inl (0, 42, .inl (fun _ => 0)), .inl (0, 42, .inl (fun _ => 0)), .inl (0, 42, .inl (fun _ => 0)), .inl (0, 42, .inl (fun _ => 0)), .inr (0, [.ref 22, .ref 25]), .inl (3, 2, .inr (.inr (.inr (.inr (fun i => if i < 2 then some (zSX.2.2 22 i) else none))))), .inl (0, 42, .inl (fun _ => 0)), .inl (0, 42, .inl (fun _ => 0)), .inl (1, 2, .inl (fun _ => 0)), .inr (7, [.int 0, .int (-9), .int (-9), .ref 27, .ref 28, .ref 29]), .inl (0, 6, .inl (fun _ => 0)), .inl (0, 6, .inl (fun _ => 0)), .inl (0, 6, .inl (fun _ => 0)), .inr (6, [.ref 31, .ref 34, .ref 35, .ref 36, .ref 37, .int (-1)]), .inr (1, [.ref 32, .ref 33]), .inl (0, 6, .inl (fun _ => 0)), .inl (0, 8, .inl (fun _ => 0)), .inl (0, 5, .inl (fun _ => 0)), .inl (0, 6, .inl (fun _ => 0)), .inl (0, 5, .inl (fun _ => 0)), .inl (0, 5, .inl (fun _ => 0)), .inr (3, [.ref 39]), .inr (8, [.ref 40]), .inl (0, 42, .inl (fun _ => 0)), .inr (2, [.ref 42, .ref 43]), .inl (2, 36, .inr (.inl (fun _ => 0))), .inl (2, 36, .inr (.inl (fun _ => 0))), .inr (4, [.ref 45]), .inl (0, 64, .inl (fun _ => 0)), .inr (10, [.int 0, .int 0, .int 0, .ref 47, .ref 48, .ref 49, .ref 50, .ref 51, .ref 52, .ref 53, .ref 54]), .inl (0, 8, .inl (fun _ => 0)), .inl (0, 8, .inl (fun _ => 0)), .inl (0, 8, .inl (fun _ => 0)), .inl (0, 6, .inl (fun _ => 0)), .inl (0, 12, .inl (fun _ => 0)), .inl (0, 12, .inl (fun _ => 0)), .inl (0, 5, .inl (fun _ => 0)), .inl (0, 5, .inl (fun _ => 0)), .inr (10, [.int 0, .int 0, .int 0, .null, .null, .null, .null, .null, .null, .null, .null])] [.inr (11, [.ref 1, .ref 4, .ref 6, .ref 9, .ref 21, .ref 26, .ref 30, .ref 38, .ref 41, .ref 44, .ref 46, .null, .long 0]), .inr (9, [.ref 2, .int 0, .int 0, .int 0, .int 0, .int 0, .ref 3]), .inl (0, 200, .inl (fun _ => 0)), .inl (0, 5, .inl (fun _ => 0)), .inr (8, [.ref 5]), .inl (0, 42, .inl (fun _ => 0)), .inr (1, [.ref 7, .ref 8]), .inl (0, 6, .inl (fun _ => 0)), .inl (0, 8, .inl (fun _ => 0)), .inr (5, [.ref 10, .int 0, .int 0]), .inl (3, 10, .inr (.inr (.inr (.inr (fun i => if i < 10 then some (zSX.2.2 10 i) else none))))), .inl (0, 42, .inl (fun _ => 0)), .inl (0, 42, .inl (fun _ => 0)), .inl (0, 42, .inl (fun _ => 0)), .inl (0, 42, .inl (fun _ => 0)), .inl (0, 42, .inl (fun _ => 0)), .inl (0, 42, .inl (fun _ => 0)), .inl (0, 42, .inl (fun _ => 0)), .inl (0, 42, .inl (fun _ => 0)), .inl (0, 42, .inl (fun _ => 0)), .inl (0, 42, .inl (fun _ => 0)), .inr (0, [.ref 22, .ref 25]), .inl (3, 2, .inr (.inr (.inr (.inr (fun i => if i < 2 then some (zSX.2.2 22 i) else none))))), .inl (0, 42, .inl (fun _ => 0)), .inl (0, 42, .inl (fun _ => 0)), .inl (1, 2, .inl (fun _ => 0)), .inr (7, [.int 0, .int (-9), .int (-9), .ref 27, .ref 28, .ref 29]), .inl (0, 6, .inl (fun _ => 0)), .inl (0, 6, .inl (fun _ => 0)), .inl (0, 6, .inl (fun _ => 0)), .inr (6, [.ref 31, .ref 34, .ref 35, .ref 36, .ref 37, .int (-1)]), .inr (1, [.ref 32, .ref 33]), .inl (0, 6, .inl (fun _ => 0)), .inl (0, 8, .inl (fun _ => 0)), .inl (0, 5, .inl (fun _ => 0)), .inl (0, 6, .inl (fun _ => 0)), .inl (0, 5, .inl (fun _ => 0)), .inl (0, 5, .inl (fun _ => 0)), .inr (3, [.ref 39]), .inr (8, [.ref 40]), .inl (0, 42, .inl (fun _ => 0)), .inr (2, [.ref 42, .ref 43]), .inl (2, 36, .inr (.inl (fun _ => 0))), .inl (2, 36, .inr (.inl (fun _ => 0))), .inr (4, [.ref 45]), .inl (0, 64, .inl (fun _ => 0)), .inr (10, [.int 0, .int 0, .int 0, .ref 47, .ref 48, .ref 49, .ref 50, .ref 51, .ref 52, .ref 53, .ref 54]), .inl (0, 8, .inl (fun _ => 0)), .inl (0, 8, .inl (fun _ => 0)), .inl (0, 8, .inl (fun _ => 0)), .inl (0, 6, .inl (fun _ => 0)), .inl (0, 12, .inl (fun _ => 0)), .inl (0, 12, .inl (fun _ => 0)), .inl (0, 5, .inl (fun _ => 0)), .inl (0, 5, .inl (fun _ => 0)), .inr (10, [.int 0, .int 0, .int 0, .ref 56, .ref 57, .ref 58, .ref 59, .ref 60, .ref 61, .ref 62, .ref 63]), .inl (0, 8, .inl (fun _ => 0)), .inl (0, 8, .inl (fun _ => 0)), .inl (0, 8, .inl (fun _ => 0)), .inl (0, 6, .inl (fun _ => 0)), .inl (0, 12, .inl (fun _ => 0)), .inl (0, 12, .inl (fun _ => 0)), .inl (0, 5, .inl (fun _ => 0)), .inl (0, 5, .inl (fun _ => 0))] := by
  refine zk_Ameet (n := 0) (lv := [some (.ref 55)]) zpn_X10 rfl rfl (Nat.le_of_ble_eq_true rfl) ?_
  refine zk_Aaload_n (i := 0) dX10_init_0 rfl rfl ?_
  refine zk_Aobj dX10_init_1 zob_X10 zo_obj (Nat.le_of_ble_eq_true rfl) ?_
  refine zk_Aaload_n (i := 0) dX10_init_4 rfl rfl ?_
  refine zk_Aiconst dX10_init_5 zki_0 ?_
  refine zk_Aput 55 10 0 dX10_init_6 zzp_X10_9 rfl (Nat.le_of_ble_eq_true rfl) (fun _ => rfl) (fun _ => rfl) rfl ?_
  refine zk_Aaload_n (i := 0) dX10_init_9 rfl rfl ?_
  refine zk_Aiconst dX10_init_10 zki_0 ?_
  refine zk_Aput 55 10 1 dX10_init_11 zzp_X10_15 rfl (Nat.le_of_ble_eq_true rfl) (fun _ => rfl) (fun _ => rfl) rfl ?_
  refine zk_Aaload_n (i := 0) dX10_init_14 rfl rfl ?_
  refine zk_Aiconst dX10_init_15 zki_0 ?_
  refine zk_Aput 55 10 2 dX10_init_16 zzp_X10_18 rfl (Nat.le_of_ble_eq_true rfl) (fun _ => rfl) (fun _ => rfl) rfl ?_
  refine zk_Aaload_n (i := 0) dX10_init_19 rfl rfl ?_
  refine zk_Abipush dX10_init_20 zkb_8 ?_
  refine zk_AnewaI 8 dX10_init_22 za_int (by decide) (by decide) (by decide) (Nat.le_of_ble_eq_true rfl) rfl (Nat.le_of_ble_eq_true rfl) (Nat.le_of_ble_eq_true rfl) ?_
  refine zk_AputF 55 10 3 dX10_init_24 zzf_X10_21 rfl (Nat.le_of_ble_eq_true rfl) (fun _ => rfl) (fun _ => rfl) rfl ?_
  refine zk_Aaload_n (i := 0) dX10_init_27 rfl rfl ?_
  refine zk_Abipush dX10_init_28 zkb_8 ?_
  refine zk_AnewaI 8 dX10_init_30 za_int (by decide) (by decide) (by decide) (Nat.le_of_ble_eq_true rfl) rfl (Nat.le_of_ble_eq_true rfl) (Nat.le_of_ble_eq_true rfl) ?_
  refine zk_AputF 55 10 4 dX10_init_32 zzf_X10_25 rfl (Nat.le_of_ble_eq_true rfl) (fun _ => rfl) (fun _ => rfl) rfl ?_
  refine zk_Aaload_n (i := 0) dX10_init_35 rfl rfl ?_
  refine zk_Abipush dX10_init_36 zkb_8 ?_
  refine zk_AnewaI 8 dX10_init_38 za_int (by decide) (by decide) (by decide) (Nat.le_of_ble_eq_true rfl) rfl (Nat.le_of_ble_eq_true rfl) (Nat.le_of_ble_eq_true rfl) ?_
  refine zk_AputF 55 10 5 dX10_init_40 zzf_X10_28 rfl (Nat.le_of_ble_eq_true rfl) (fun _ => rfl) (fun _ => rfl) rfl ?_
  refine zk_Aaload_n (i := 0) dX10_init_43 rfl rfl ?_
  refine zk_Abipush dX10_init_44 zkb_6 ?_
  refine zk_AnewaI 6 dX10_init_46 za_int (by decide) (by decide) (by decide) (Nat.le_of_ble_eq_true rfl) rfl (Nat.le_of_ble_eq_true rfl) (Nat.le_of_ble_eq_true rfl) ?_
  refine zk_AputF 55 10 6 dX10_init_48 zzf_X10_31 rfl (Nat.le_of_ble_eq_true rfl) (fun _ => rfl) (fun _ => rfl) rfl ?_
  refine zk_Aaload_n (i := 0) dX10_init_51 rfl rfl ?_
  refine zk_Abipush dX10_init_52 zkb_12 ?_
  refine zk_AnewaI 12 dX10_init_54 za_int (by decide) (by decide) (by decide) (Nat.le_of_ble_eq_true rfl) rfl (Nat.le_of_ble_eq_true rfl) (Nat.le_of_ble_eq_true rfl) ?_
  refine zk_AputF 55 10 7 dX10_init_56 zzf_X10_34 rfl (Nat.le_of_ble_eq_true rfl) (fun _ => rfl) (fun _ => rfl) rfl ?_
  refine zk_Aaload_n (i := 0) dX10_init_59 rfl rfl ?_
  refine zk_Abipush dX10_init_60 zkb_12 ?_
  refine zk_AnewaI 12 dX10_init_62 za_int (by decide) (by decide) (by decide) (Nat.le_of_ble_eq_true rfl) rfl (Nat.le_of_ble_eq_true rfl) (Nat.le_of_ble_eq_true rfl) ?_
  refine zk_AputF 55 10 8 dX10_init_64 zzf_X10_37 rfl (Nat.le_of_ble_eq_true rfl) (fun _ => rfl) (fun _ => rfl) rfl ?_
  refine zk_Aaload_n (i := 0) dX10_init_67 rfl rfl ?_
  refine zk_Aiconst dX10_init_68 zki_5 ?_
  refine zk_AnewaI 5 dX10_init_69 za_int (by decide) (by decide) (by decide) (Nat.le_of_ble_eq_true rfl) rfl (Nat.le_of_ble_eq_true rfl) (Nat.le_of_ble_eq_true rfl) ?_
  refine zk_AputF 55 10 9 dX10_init_71 zzf_X10_40 rfl (Nat.le_of_ble_eq_true rfl) (fun _ => rfl) (fun _ => rfl) rfl ?_
  refine zk_Aaload_n (i := 0) dX10_init_74 rfl rfl ?_
  refine zk_Aiconst dX10_init_75 zki_5 ?_
  refine zk_AnewaI 5 dX10_init_76 za_int (by decide) (by decide) (by decide) (Nat.le_of_ble_eq_true rfl) rfl (Nat.le_of_ble_eq_true rfl) (Nat.le_of_ble_eq_true rfl) ?_
  refine zk_AputF 55 10 10 dX10_init_78 zzf_X10_43 rfl (Nat.le_of_ble_eq_true rfl) (fun _ => rfl) (fun _ => rfl) rfl ?_
  exact zk_Aret dX10_init_81 rfl rfl rfl rfl
set_option maxRecDepth 100000 in
set_option maxHeartbeats 4000000 in
theorem zI_Tp_0 : zk_XA 2 63 1194 zY_X11_init [.ref 0] [.inr (11, [.null, .null, .null, .null, .null, .null, .null, .null, .null, .null, .null, .null, .long 0])] zX_cs := by
  refine zk_Ameet (n := 0) (lv := [some (.ref 0)]) zpn_X11 rfl rfl (Nat.le_of_ble_eq_true rfl) ?_
  refine zk_Aaload_n (i := 0) dX11_init_0 rfl rfl ?_
  refine zk_Aobj dX11_init_1 zob_X11 zo_obj (Nat.le_of_ble_eq_true rfl) ?_
  refine zk_Aaload_n (i := 0) dX11_init_4 rfl rfl ?_
  refine zk_Anew 9 (fs := [.null, .int 0, .int 0, .int 0, .int 0, .int 0, .null]) dX11_init_5 zk_ok9 zn_X11_7 zdf_X9 (by intro k h; simp at h) (Nat.le_of_ble_eq_true rfl) rfl (Nat.le_of_ble_eq_true rfl) (Nat.le_of_ble_eq_true rfl) ?_
  refine zk_Adup dX11_init_8 rfl ?_
  refine zk_Acall zY_X9_init 1 dX11_init_9 zl_X9_init zci_X11_9 rfl rfl zI_Script_1 (Nat.le_of_ble_eq_true rfl) (Nat.le_of_ble_eq_true rfl) rfl (Nat.le_of_ble_eq_true rfl) (Nat.le_of_ble_eq_true rfl) ?_
  refine zk_AputF 0 11 0 dX11_init_12 zzf_X11_10 rfl (Nat.le_of_ble_eq_true rfl) (fun _ => rfl) (fun _ => rfl) rfl ?_
  refine zk_Aaload_n (i := 0) dX11_init_15 rfl rfl ?_
  refine zk_Anew 8 (fs := [.null]) dX11_init_16 zk_ok8 zn_X11_16 zdf_X8 (by intro k h; simp at h) (Nat.le_of_ble_eq_true rfl) rfl (Nat.le_of_ble_eq_true rfl) (Nat.le_of_ble_eq_true rfl) ?_
  refine zk_Adup dX11_init_19 rfl ?_
  refine zk_Acall zY_X8_init 4 dX11_init_20 zl_X8_init zci_X11_18 rfl rfl zI_Scene_4 (Nat.le_of_ble_eq_true rfl) (Nat.le_of_ble_eq_true rfl) rfl (Nat.le_of_ble_eq_true rfl) (Nat.le_of_ble_eq_true rfl) ?_
  refine zk_AputF 0 11 1 dX11_init_23 zzf_X11_19 rfl (Nat.le_of_ble_eq_true rfl) (fun _ => rfl) (fun _ => rfl) rfl ?_
  refine zk_Aaload_n (i := 0) dX11_init_26 rfl rfl ?_
  refine zk_Anew 1 (fs := [.null, .null]) dX11_init_27 zk_ok1 zn_X11_23 zdf_X1 (by intro k h; simp at h) (Nat.le_of_ble_eq_true rfl) rfl (Nat.le_of_ble_eq_true rfl) (Nat.le_of_ble_eq_true rfl) ?_
  refine zk_Adup dX11_init_30 rfl ?_
  refine zk_Acall zY_X1_init 6 dX11_init_31 zl_X1_init zci_X11_25 rfl rfl zI_Burden_6 (Nat.le_of_ble_eq_true rfl) (Nat.le_of_ble_eq_true rfl) rfl (Nat.le_of_ble_eq_true rfl) (Nat.le_of_ble_eq_true rfl) ?_
  refine zk_AputF 0 11 2 dX11_init_34 zzf_X11_26 rfl (Nat.le_of_ble_eq_true rfl) (fun _ => rfl) (fun _ => rfl) rfl ?_
  refine zk_Aaload_n (i := 0) dX11_init_37 rfl rfl ?_
  refine zk_Anew 5 (fs := [.null, .int 0, .int 0]) dX11_init_38 zk_ok5 zn_X11_30 zdf_X5 (by intro k h; simp at h) (Nat.le_of_ble_eq_true rfl) rfl (Nat.le_of_ble_eq_true rfl) (Nat.le_of_ble_eq_true rfl) ?_
  refine zk_Adup dX11_init_41 rfl ?_
  refine zk_Acall zY_X5_init 9 dX11_init_42 zl_X5_init zci_X11_32 rfl rfl zI_Past_9 (Nat.le_of_ble_eq_true rfl) (Nat.le_of_ble_eq_true rfl) rfl (Nat.le_of_ble_eq_true rfl) (Nat.le_of_ble_eq_true rfl) ?_
  refine zk_AputF 0 11 3 dX11_init_45 zzf_X11_33 rfl (Nat.le_of_ble_eq_true rfl) (fun _ => rfl) (fun _ => rfl) rfl ?_
  refine zk_Aaload_n (i := 0) dX11_init_48 rfl rfl ?_
  refine zk_Anew 0 (fs := [.null, .null]) dX11_init_49 zk_ok0 zn_X11_37 zdf_X0 (by intro k h; simp at h) (Nat.le_of_ble_eq_true rfl) rfl (Nat.le_of_ble_eq_true rfl) (Nat.le_of_ble_eq_true rfl) ?_
  refine zk_Adup dX11_init_52 rfl ?_
  refine zk_Acall zY_X0_init 21 dX11_init_53 zl_X0_init zci_X11_39 rfl rfl zI_Album_21 (Nat.le_of_ble_eq_true rfl) (Nat.le_of_ble_eq_true rfl) rfl (Nat.le_of_ble_eq_true rfl) (Nat.le_of_ble_eq_true rfl) ?_
  refine zk_AputF 0 11 4 dX11_init_56 zzf_X11_40 rfl (Nat.le_of_ble_eq_true rfl) (fun _ => rfl) (fun _ => rfl) rfl ?_
  refine zk_Aaload_n (i := 0) dX11_init_59 rfl rfl ?_
  refine zk_Anew 7 (fs := [.int 0, .int 0, .int 0, .null, .null, .null]) dX11_init_60 zk_ok7 zn_X11_44 zdf_X7 (by intro k h; simp at h) (Nat.le_of_ble_eq_true rfl) rfl (Nat.le_of_ble_eq_true rfl) (Nat.le_of_ble_eq_true rfl) ?_
  refine zk_Adup dX11_init_63 rfl ?_
  refine zk_Acall zY_X7_init 26 dX11_init_64 zl_X7_init zci_X11_46 rfl rfl zI_Rot_26 (Nat.le_of_ble_eq_true rfl) (Nat.le_of_ble_eq_true rfl) rfl (Nat.le_of_ble_eq_true rfl) (Nat.le_of_ble_eq_true rfl) ?_
  refine zk_AputF 0 11 5 dX11_init_67 zzf_X11_47 rfl (Nat.le_of_ble_eq_true rfl) (fun _ => rfl) (fun _ => rfl) rfl ?_
  refine zk_Aaload_n (i := 0) dX11_init_70 rfl rfl ?_
  refine zk_Anew 6 (fs := [.null, .null, .null, .null, .null, .int 0]) dX11_init_71 zk_ok6 zn_X11_51 zdf_X6 (by intro k h; simp at h) (Nat.le_of_ble_eq_true rfl) rfl (Nat.le_of_ble_eq_true rfl) (Nat.le_of_ble_eq_true rfl) ?_
  refine zk_Adup dX11_init_74 rfl ?_
  refine zk_Acall zY_X6_init 30 dX11_init_75 zl_X6_init zci_X11_53 rfl rfl zI_Planner_30 (Nat.le_of_ble_eq_true rfl) (Nat.le_of_ble_eq_true rfl) rfl (Nat.le_of_ble_eq_true rfl) (Nat.le_of_ble_eq_true rfl) ?_
  refine zk_AputF 0 11 6 dX11_init_78 zzf_X11_54 rfl (Nat.le_of_ble_eq_true rfl) (fun _ => rfl) (fun _ => rfl) rfl ?_
  refine zk_Aaload_n (i := 0) dX11_init_81 rfl rfl ?_
  refine zk_Anew 3 (fs := [.null]) dX11_init_82 zk_ok3 zn_X11_58 zdf_X3 (by intro k h; simp at h) (Nat.le_of_ble_eq_true rfl) rfl (Nat.le_of_ble_eq_true rfl) (Nat.le_of_ble_eq_true rfl) ?_
  refine zk_Adup dX11_init_85 rfl ?_
  refine zk_Acall zY_X3_init 38 dX11_init_86 zl_X3_init zci_X11_60 rfl rfl zI_Forecast_38 (Nat.le_of_ble_eq_true rfl) (Nat.le_of_ble_eq_true rfl) rfl (Nat.le_of_ble_eq_true rfl) (Nat.le_of_ble_eq_true rfl) ?_
  refine zk_AputF 0 11 7 dX11_init_89 zzf_X11_61 rfl (Nat.le_of_ble_eq_true rfl) (fun _ => rfl) (fun _ => rfl) rfl ?_
  refine zk_Aaload_n (i := 0) dX11_init_92 rfl rfl ?_
  refine zk_Anew 2 (fs := [.null, .null]) dX11_init_93 zk_ok2 zn_X11_65 zdf_X2 (by intro k h; simp at h) (Nat.le_of_ble_eq_true rfl) rfl (Nat.le_of_ble_eq_true rfl) (Nat.le_of_ble_eq_true rfl) ?_
  refine zk_Adup dX11_init_96 rfl ?_
  refine zk_Acall zY_X2_init 41 dX11_init_97 zl_X2_init zci_X11_67 rfl rfl zI_Chance_41 (Nat.le_of_ble_eq_true rfl) (Nat.le_of_ble_eq_true rfl) rfl (Nat.le_of_ble_eq_true rfl) (Nat.le_of_ble_eq_true rfl) ?_
  refine zk_AputF 0 11 8 dX11_init_100 zzf_X11_68 rfl (Nat.le_of_ble_eq_true rfl) (fun _ => rfl) (fun _ => rfl) rfl ?_
  refine zk_Aaload_n (i := 0) dX11_init_103 rfl rfl ?_
  refine zk_Anew 4 (fs := [.null]) dX11_init_104 zk_ok4 zn_X11_72 zdf_X4 (by intro k h; simp at h) (Nat.le_of_ble_eq_true rfl) rfl (Nat.le_of_ble_eq_true rfl) (Nat.le_of_ble_eq_true rfl) ?_
  refine zk_Adup dX11_init_107 rfl ?_
  refine zk_Acall zY_X4_init 44 dX11_init_108 zl_X4_init zci_X11_74 rfl rfl zI_Laying_44 (Nat.le_of_ble_eq_true rfl) (Nat.le_of_ble_eq_true rfl) rfl (Nat.le_of_ble_eq_true rfl) (Nat.le_of_ble_eq_true rfl) ?_
  refine zk_AputF 0 11 9 dX11_init_111 zzf_X11_75 rfl (Nat.le_of_ble_eq_true rfl) (fun _ => rfl) (fun _ => rfl) rfl ?_
  refine zk_Aaload_n (i := 0) dX11_init_114 rfl rfl ?_
  refine zk_Anew 10 (fs := [.int 0, .int 0, .int 0, .null, .null, .null, .null, .null, .null, .null, .null]) dX11_init_115 zk_ok10 zn_X11_79 zdf_X10 (by intro k h; simp at h) (Nat.le_of_ble_eq_true rfl) rfl (Nat.le_of_ble_eq_true rfl) (Nat.le_of_ble_eq_true rfl) ?_
  refine zk_Adup dX11_init_118 rfl ?_
  refine zk_Acall zY_X10_init 46 dX11_init_119 zl_X10_init zci_X11_81 rfl rfl zI_Tree_46 (Nat.le_of_ble_eq_true rfl) (Nat.le_of_ble_eq_true rfl) rfl (Nat.le_of_ble_eq_true rfl) (Nat.le_of_ble_eq_true rfl) ?_
  refine zk_Aput 0 11 10 dX11_init_122 zzp_X11_82 rfl (Nat.le_of_ble_eq_true rfl) (fun _ => rfl) (fun _ => rfl) rfl ?_
  refine zk_Aaload_n (i := 0) dX11_init_125 rfl rfl ?_
  refine zk_Anew 10 (fs := [.int 0, .int 0, .int 0, .null, .null, .null, .null, .null, .null, .null, .null]) dX11_init_126 zk_ok10 zn_X11_79 zdf_X10 (by intro k h; simp at h) (Nat.le_of_ble_eq_true rfl) rfl (Nat.le_of_ble_eq_true rfl) (Nat.le_of_ble_eq_true rfl) ?_
  refine zk_Adup dX11_init_129 rfl ?_
  refine zk_Acall zY_X10_init 55 dX11_init_130 zl_X10_init zci_X11_81 rfl rfl zI_Tree_55 (Nat.le_of_ble_eq_true rfl) (Nat.le_of_ble_eq_true rfl) rfl (Nat.le_of_ble_eq_true rfl) (Nat.le_of_ble_eq_true rfl) ?_
  refine zk_Aput 0 11 11 dX11_init_133 zzp_X11_86 rfl (Nat.le_of_ble_eq_true rfl) (fun _ => rfl) (fun _ => rfl) rfl ?_
  refine zk_Aaload_n (i := 0) dX11_init_136 rfl rfl ?_
  refine zk_Alconst (v := 0) dX11_init_137 rfl ?_
  refine zk_Aput 0 11 12 dX11_init_138 zzp_X11_89 rfl (Nat.le_of_ble_eq_true rfl) (fun _ => rfl) (fun _ => rfl) rfl ?_
  exact zk_Aret dX11_init_141 rfl rfl rfl rfl
set_option maxRecDepth 100000 in
set_option maxHeartbeats 4000000 in
theorem zI_Md_0 : zk_XA 0 19 1129 zY_X12_init [.ref 0] [.inr (12, [.int 0, .null, .int 0, .null, .int 0, .null, .null, .null, .int 0, .null, .null, .int 0, .null, .long 0, .null, .int 0, .int 0, .int 0, .int 0, .int 0, .int 0, .int 0, .null, .int 0, .null, .int 0, .null, .null, .null, .null, .null, .null, .null, .null])] zM_cs := by
  refine zk_Ameet (n := 1) (lv := [some (.ref 0), none]) zpn_X12 rfl rfl (Nat.le_of_ble_eq_true rfl) ?_
  refine zk_Aaload_n (i := 0) dX12_init_0 rfl rfl ?_
  refine zk_Aobj dX12_init_1 zob_X12 zo_obj (Nat.le_of_ble_eq_true rfl) ?_
  refine zk_Aaload_n (i := 0) dX12_init_4 rfl rfl ?_
  refine zk_Abipush dX12_init_5 zkb_24 ?_
  refine zk_AnewaI 24 dX12_init_7 za_int (by decide) (by decide) (by decide) (Nat.le_of_ble_eq_true rfl) rfl (Nat.le_of_ble_eq_true rfl) (Nat.le_of_ble_eq_true rfl) ?_
  refine zk_AputF 0 12 1 dX12_init_9 zzf_X12_7 rfl (Nat.le_of_ble_eq_true rfl) (fun _ => rfl) (fun _ => rfl) rfl ?_
  refine zk_Aaload_n (i := 0) dX12_init_12 rfl rfl ?_
  refine zk_Abipush dX12_init_13 zkb_18 ?_
  refine zk_AnewaI 18 dX12_init_15 za_int (by decide) (by decide) (by decide) (Nat.le_of_ble_eq_true rfl) rfl (Nat.le_of_ble_eq_true rfl) (Nat.le_of_ble_eq_true rfl) ?_
  refine zk_AputF 0 12 3 dX12_init_17 zzf_X12_13 rfl (Nat.le_of_ble_eq_true rfl) (fun _ => rfl) (fun _ => rfl) rfl ?_
  refine zk_Aaload_n (i := 0) dX12_init_20 rfl rfl ?_
  refine zk_Abipush dX12_init_21 zkb_10 ?_
  refine zk_AnewaI 10 dX12_init_23 za_int (by decide) (by decide) (by decide) (Nat.le_of_ble_eq_true rfl) rfl (Nat.le_of_ble_eq_true rfl) (Nat.le_of_ble_eq_true rfl) ?_
  refine zk_AputF 0 12 5 dX12_init_25 zzf_X12_16 rfl (Nat.le_of_ble_eq_true rfl) (fun _ => rfl) (fun _ => rfl) rfl ?_
  refine zk_Aaload_n (i := 0) dX12_init_28 rfl rfl ?_
  refine zk_Abipush dX12_init_29 zkb_42 ?_
  refine zk_AnewaI 42 dX12_init_31 za_int (by decide) (by decide) (by decide) (Nat.le_of_ble_eq_true rfl) rfl (Nat.le_of_ble_eq_true rfl) (Nat.le_of_ble_eq_true rfl) ?_
  refine zk_AputF 0 12 6 dX12_init_33 zzf_X12_19 rfl (Nat.le_of_ble_eq_true rfl) (fun _ => rfl) (fun _ => rfl) rfl ?_
  refine zk_Aaload_n (i := 0) dX12_init_36 rfl rfl ?_
  refine zk_Asipush dX12_init_37 zks_420 ?_
  refine zk_AnewaI 420 dX12_init_40 za_int (by decide) (by decide) (by decide) (Nat.le_of_ble_eq_true rfl) rfl (Nat.le_of_ble_eq_true rfl) (Nat.le_of_ble_eq_true rfl) ?_
  refine zk_AputF 0 12 7 dX12_init_42 zzf_X12_22 rfl (Nat.le_of_ble_eq_true rfl) (fun _ => rfl) (fun _ => rfl) rfl ?_
  refine zk_Aaload_n (i := 0) dX12_init_45 rfl rfl ?_
  refine zk_Abipush dX12_init_46 zkb_84 ?_
  refine zk_AnewaI 84 dX12_init_48 za_int (by decide) (by decide) (by decide) (Nat.le_of_ble_eq_true rfl) rfl (Nat.le_of_ble_eq_true rfl) (Nat.le_of_ble_eq_true rfl) ?_
  refine zk_AputF 0 12 9 dX12_init_50 zzf_X12_25 rfl (Nat.le_of_ble_eq_true rfl) (fun _ => rfl) (fun _ => rfl) rfl ?_
  refine zk_Aaload_n (i := 0) dX12_init_53 rfl rfl ?_
  refine zk_Aiconst dX12_init_54 zki_2 ?_
  refine zk_AnewaZ 2 dX12_init_55 za_boolean (by decide) (by decide) (by decide) (Nat.le_of_ble_eq_true rfl) rfl (Nat.le_of_ble_eq_true rfl) (Nat.le_of_ble_eq_true rfl) ?_
  refine zk_AputF 0 12 10 dX12_init_57 zzf_X12_28 rfl (Nat.le_of_ble_eq_true rfl) (fun _ => rfl) (fun _ => rfl) rfl ?_
  refine zk_Aaload_n (i := 0) dX12_init_60 rfl rfl ?_
  refine zk_Abipush dX12_init_61 zkb_18 ?_
  refine zk_AnewaI 18 dX12_init_63 za_int (by decide) (by decide) (by decide) (Nat.le_of_ble_eq_true rfl) rfl (Nat.le_of_ble_eq_true rfl) (Nat.le_of_ble_eq_true rfl) ?_
  refine zk_AputF 0 12 12 dX12_init_65 zzf_X12_32 rfl (Nat.le_of_ble_eq_true rfl) (fun _ => rfl) (fun _ => rfl) rfl ?_
  refine zk_Aaload_n (i := 0) dX12_init_68 rfl rfl ?_
  refine zk_Asipush dX12_init_69 zks_200 ?_
  refine zk_AnewaI 200 dX12_init_72 za_int (by decide) (by decide) (by decide) (Nat.le_of_ble_eq_true rfl) rfl (Nat.le_of_ble_eq_true rfl) (Nat.le_of_ble_eq_true rfl) ?_
  refine zk_AputF 0 12 14 dX12_init_74 zzf_X12_35 rfl (Nat.le_of_ble_eq_true rfl) (fun _ => rfl) (fun _ => rfl) rfl ?_
  refine zk_Aaload_n (i := 0) dX12_init_77 rfl rfl ?_
  refine zk_Abipush dX12_init_78 zkb_24 ?_
  refine zk_AnewaI 24 dX12_init_80 za_int (by decide) (by decide) (by decide) (Nat.le_of_ble_eq_true rfl) rfl (Nat.le_of_ble_eq_true rfl) (Nat.le_of_ble_eq_true rfl) ?_
  refine zk_AputF 0 12 22 dX12_init_82 zzf_X12_38 rfl (Nat.le_of_ble_eq_true rfl) (fun _ => rfl) (fun _ => rfl) rfl ?_
  refine zk_Aaload_n (i := 0) dX12_init_85 rfl rfl ?_
  refine zk_Abipush dX12_init_86 zkb_30 ?_
  refine zk_AnewaI 30 dX12_init_88 za_int (by decide) (by decide) (by decide) (Nat.le_of_ble_eq_true rfl) rfl (Nat.le_of_ble_eq_true rfl) (Nat.le_of_ble_eq_true rfl) ?_
  refine zk_AputF 0 12 24 dX12_init_90 zzf_X12_41 rfl (Nat.le_of_ble_eq_true rfl) (fun _ => rfl) (fun _ => rfl) rfl ?_
  refine zk_Aaload_n (i := 0) dX12_init_93 rfl rfl ?_
  refine zk_Abipush dX12_init_94 zkb_10 ?_
  refine zk_AnewaI 10 dX12_init_96 za_int (by decide) (by decide) (by decide) (Nat.le_of_ble_eq_true rfl) rfl (Nat.le_of_ble_eq_true rfl) (Nat.le_of_ble_eq_true rfl) ?_
  refine zk_AputF 0 12 26 dX12_init_98 zzf_X12_44 rfl (Nat.le_of_ble_eq_true rfl) (fun _ => rfl) (fun _ => rfl) rfl ?_
  refine zk_Aaload_n (i := 0) dX12_init_101 rfl rfl ?_
  refine zk_Aiconst dX12_init_102 zki_5 ?_
  refine zk_AnewaI 5 dX12_init_103 za_int (by decide) (by decide) (by decide) (Nat.le_of_ble_eq_true rfl) rfl (Nat.le_of_ble_eq_true rfl) (Nat.le_of_ble_eq_true rfl) ?_
  refine zk_AputF 0 12 27 dX12_init_105 zzf_X12_47 rfl (Nat.le_of_ble_eq_true rfl) (fun _ => rfl) (fun _ => rfl) rfl ?_
  refine zk_Aaload_n (i := 0) dX12_init_108 rfl rfl ?_
  refine zk_Abipush dX12_init_109 zkb_6 ?_
  refine zk_AnewaI 6 dX12_init_111 za_int (by decide) (by decide) (by decide) (Nat.le_of_ble_eq_true rfl) rfl (Nat.le_of_ble_eq_true rfl) (Nat.le_of_ble_eq_true rfl) ?_
  refine zk_AputF 0 12 28 dX12_init_113 zzf_X12_50 rfl (Nat.le_of_ble_eq_true rfl) (fun _ => rfl) (fun _ => rfl) rfl ?_
  refine zk_Aaload_n (i := 0) dX12_init_116 rfl rfl ?_
  refine zk_Abipush dX12_init_117 zkb_8 ?_
  refine zk_AnewaI 8 dX12_init_119 za_int (by decide) (by decide) (by decide) (Nat.le_of_ble_eq_true rfl) rfl (Nat.le_of_ble_eq_true rfl) (Nat.le_of_ble_eq_true rfl) ?_
  refine zk_AputF 0 12 29 dX12_init_121 zzf_X12_53 rfl (Nat.le_of_ble_eq_true rfl) (fun _ => rfl) (fun _ => rfl) rfl ?_
  refine zk_Aaload_n (i := 0) dX12_init_124 rfl rfl ?_
  refine zk_Abipush dX12_init_125 zkb_36 ?_
  refine zk_AnewaI 36 dX12_init_127 za_int (by decide) (by decide) (by decide) (Nat.le_of_ble_eq_true rfl) rfl (Nat.le_of_ble_eq_true rfl) (Nat.le_of_ble_eq_true rfl) ?_
  refine zk_AputF 0 12 30 dX12_init_129 zzf_X12_56 rfl (Nat.le_of_ble_eq_true rfl) (fun _ => rfl) (fun _ => rfl) rfl ?_
  refine zk_Aaload_n (i := 0) dX12_init_132 rfl rfl ?_
  refine zk_Abipush dX12_init_133 zkb_64 ?_
  refine zk_AnewaL 64 dX12_init_135 za_long (by decide) (by decide) (by decide) (Nat.le_of_ble_eq_true rfl) rfl (Nat.le_of_ble_eq_true rfl) (Nat.le_of_ble_eq_true rfl) ?_
  refine zk_AputF 0 12 31 dX12_init_137 zzf_X12_59 rfl (Nat.le_of_ble_eq_true rfl) (fun _ => rfl) (fun _ => rfl) rfl ?_
  refine zk_Aaload_n (i := 0) dX12_init_140 rfl rfl ?_
  refine zk_Abipush dX12_init_141 zkb_64 ?_
  refine zk_AnewaL 64 dX12_init_143 za_long (by decide) (by decide) (by decide) (Nat.le_of_ble_eq_true rfl) rfl (Nat.le_of_ble_eq_true rfl) (Nat.le_of_ble_eq_true rfl) ?_
  refine zk_AputF 0 12 32 dX12_init_145 zzf_X12_63 rfl (Nat.le_of_ble_eq_true rfl) (fun _ => rfl) (fun _ => rfl) rfl ?_
  refine zk_Aaload_n (i := 0) dX12_init_148 rfl rfl ?_
  refine zk_Abipush dX12_init_149 zkb_64 ?_
  refine zk_AnewaI 64 dX12_init_151 za_int (by decide) (by decide) (by decide) (Nat.le_of_ble_eq_true rfl) rfl (Nat.le_of_ble_eq_true rfl) (Nat.le_of_ble_eq_true rfl) ?_
  refine zk_AputF 0 12 33 dX12_init_153 zzf_X12_66 rfl (Nat.le_of_ble_eq_true rfl) (fun _ => rfl) (fun _ => rfl) rfl ?_
  refine zk_Aiconst dX12_init_156 zki_0 ?_
  refine zk_Aistore_n (i := 1) dX12_init_157 rfl (Nat.le_of_ble_eq_true rfl) rfl ?_
  refine zk_Aiload_n (i := 1) dX12_init_158 rfl rfl ?_
  refine zk_Aiconst dX12_init_159 zki_5 ?_
  refine zk_Aicmp_ge 179 dX12_init_160 rfl (fun z => absurd z (by decide)) (fun _ => ?_)
  refine zk_Aaload_n (i := 0) dX12_init_163 rfl rfl ?_
  refine zk_AgetR 0 12 6 4 dX12_init_164 zgf_X12_19 rfl rfl ?_
  refine zk_Aiconst dX12_init_167 zki_1 ?_
  refine zk_Aiload_n (i := 1) dX12_init_168 rfl rfl ?_
  refine zk_Aiadd (v := 1) dX12_init_169 (by decide) ?_
  refine zk_Abipush dX12_init_170 zkb_m9 ?_
  refine zk_Aiast 4 42 dX12_init_172 rfl (zk_inb_in (by decide)) ?_
  refine zk_Aiinc (v := 1) dX12_init_173 rfl (by decide) (Nat.le_of_ble_eq_true rfl) rfl ?_
  refine zk_Agoto 158 dX12_init_176 rfl ?_
  refine zk_Aiload_n (i := 1) dX12_init_158 rfl rfl ?_
  refine zk_Aiconst dX12_init_159 zki_5 ?_
  refine zk_Aicmp_ge 179 dX12_init_160 rfl (fun z => absurd z (by decide)) (fun _ => ?_)
  refine zk_Aaload_n (i := 0) dX12_init_163 rfl rfl ?_
  refine zk_AgetR 0 12 6 4 dX12_init_164 zgf_X12_19 rfl rfl ?_
  refine zk_Aiconst dX12_init_167 zki_1 ?_
  refine zk_Aiload_n (i := 1) dX12_init_168 rfl rfl ?_
  refine zk_Aiadd (v := 2) dX12_init_169 (by decide) ?_
  refine zk_Abipush dX12_init_170 zkb_m9 ?_
  refine zk_Aiast 4 42 dX12_init_172 rfl (zk_inb_in (by decide)) ?_
  refine zk_Aiinc (v := 2) dX12_init_173 rfl (by decide) (Nat.le_of_ble_eq_true rfl) rfl ?_
  refine zk_Agoto 158 dX12_init_176 rfl ?_
  refine zk_Aiload_n (i := 1) dX12_init_158 rfl rfl ?_
  refine zk_Aiconst dX12_init_159 zki_5 ?_
  refine zk_Aicmp_ge 179 dX12_init_160 rfl (fun z => absurd z (by decide)) (fun _ => ?_)
  refine zk_Aaload_n (i := 0) dX12_init_163 rfl rfl ?_
  refine zk_AgetR 0 12 6 4 dX12_init_164 zgf_X12_19 rfl rfl ?_
  refine zk_Aiconst dX12_init_167 zki_1 ?_
  refine zk_Aiload_n (i := 1) dX12_init_168 rfl rfl ?_
  refine zk_Aiadd (v := 3) dX12_init_169 (by decide) ?_
  refine zk_Abipush dX12_init_170 zkb_m9 ?_
  refine zk_Aiast 4 42 dX12_init_172 rfl (zk_inb_in (by decide)) ?_
  refine zk_Aiinc (v := 3) dX12_init_173 rfl (by decide) (Nat.le_of_ble_eq_true rfl) rfl ?_
  refine zk_Agoto 158 dX12_init_176 rfl ?_
  refine zk_Aiload_n (i := 1) dX12_init_158 rfl rfl ?_
  refine zk_Aiconst dX12_init_159 zki_5 ?_
  refine zk_Aicmp_ge 179 dX12_init_160 rfl (fun z => absurd z (by decide)) (fun _ => ?_)
  refine zk_Aaload_n (i := 0) dX12_init_163 rfl rfl ?_
  refine zk_AgetR 0 12 6 4 dX12_init_164 zgf_X12_19 rfl rfl ?_
  refine zk_Aiconst dX12_init_167 zki_1 ?_
  refine zk_Aiload_n (i := 1) dX12_init_168 rfl rfl ?_
  refine zk_Aiadd (v := 4) dX12_init_169 (by decide) ?_
  refine zk_Abipush dX12_init_170 zkb_m9 ?_
  refine zk_Aiast 4 42 dX12_init_172 rfl (zk_inb_in (by decide)) ?_
  refine zk_Aiinc (v := 4) dX12_init_173 rfl (by decide) (Nat.le_of_ble_eq_true rfl) rfl ?_
  refine zk_Agoto 158 dX12_init_176 rfl ?_
  refine zk_Aiload_n (i := 1) dX12_init_158 rfl rfl ?_
  refine zk_Aiconst dX12_init_159 zki_5 ?_
  refine zk_Aicmp_ge 179 dX12_init_160 rfl (fun z => absurd z (by decide)) (fun _ => ?_)
  refine zk_Aaload_n (i := 0) dX12_init_163 rfl rfl ?_
  refine zk_AgetR 0 12 6 4 dX12_init_164 zgf_X12_19 rfl rfl ?_
  refine zk_Aiconst dX12_init_167 zki_1 ?_
  refine zk_Aiload_n (i := 1) dX12_init_168 rfl rfl ?_
  refine zk_Aiadd (v := 5) dX12_init_169 (by decide) ?_
  refine zk_Abipush dX12_init_170 zkb_m9 ?_
  refine zk_Aiast 4 42 dX12_init_172 rfl (zk_inb_in (by decide)) ?_
  refine zk_Aiinc (v := 5) dX12_init_173 rfl (by decide) (Nat.le_of_ble_eq_true rfl) rfl ?_
  refine zk_Agoto 158 dX12_init_176 rfl ?_
  refine zk_Aiload_n (i := 1) dX12_init_158 rfl rfl ?_
  refine zk_Aiconst dX12_init_159 zki_5 ?_
  refine zk_Aicmp_ge 179 dX12_init_160 rfl (fun _ => ?_) (fun z => absurd z (by decide))
  exact zk_Aret dX12_init_179 rfl zM_cs_eq rfl rfl
