/-! mayBe, ask -/
def zQof (t : Nat → Nat → Int32) (i k : Nat) : Nat := (t 8 (3 * k + i)).toNatClampNeg
theorem zRot.ex {NP : Nat} {s t : Nat → Nat → Int32} (h : zRot NP s t) (hP : NP ≤ 6) : ∃ (N : Nat) (Q : Nat → Nat → Nat), N ≤ 6 ∧ s 26 0 = jN N ∧ t 0 11 = jN N ∧ ∀ k, k < N → Q 0 k < NP ∧ Q 1 k ≤ 60 ∧ Q 2 k ≤ 1 ∧ s 27 k = jN (Q 0 k) ∧ t 8 (3 * k) = jN (Q 0 k) ∧ s 28 k = jN (Q 1 k) ∧ t 8 (3 * k + 1) = jN (Q 1 k) ∧ s 29 k = jN (Q 2 k) ∧ t 8 (3 * k + 2) = jN (Q 2 k) := by
  obtain ⟨N, h1, h2, h3, h4⟩ := h
  refine ⟨N, zQof t, h1, h2, h3, fun k hk => ?_⟩
  obtain ⟨p, l, b, b1, b2, b3, e1, e2, e3, e4, e5, e6⟩ := h4 k hk
  have q0 : zQof t 0 k = p := by unfold zQof; rw [Nat.add_zero, e2]; exact iI_clampN (by omega)
  have q1 : zQof t 1 k = l := by unfold zQof; rw [e4]; exact iI_clampN (by omega)
  have q2 : zQof t 2 k = b := by unfold zQof; rw [e6]; exact iI_clampN (by omega)
  rw [q0, q1, q2]
  exact ⟨b1, b2, b3, e1, e2, e3, e4, e5, e6⟩
/-- whether PLANK p breaks under l, where rot is ROTTEN -/
def brk (T : Nat → Nat → Nat) (rot p l : Nat) : Bool := decide ((if p = rot then T 6 p / 2 else T 6 p) < l)
theorem brkX {T : Nat → Nat → Nat} {y : zkM} {rot p l : Nat} (hT : zTb T) (hx : zTx T y.1) (hp : p < T 0 1) (hr : rot < 1000) (hl : l < 1000) : fRot_breaks y (jN p) (jN l) (jN rot) = some (brk T rot p l) := by
  obtain ⟨t1, t2, t3, t4, t5, t6⟩ := id hT
  have h5 := t5 p hp
  have x5 := (hx.2.2.2.2.1 p hp).2.2
  unfold fRot_breaks brk
  simp (disch := omega) only [zk_let, Option.bind_some, cond_true, cond_false, if_true, if_false, zbF, zbT, within_in, jn9, k0, k1, k2, k3, k4, k5, k6, k7, k8, k9, k10, k12, k16, k17, k20, k29, k30, k31, k32, k36, k40, k41, k42, k48, k57, k59, k60, k64, k98, k99, k100, k112, k128, k200, k255, k256, k378, k420, k999, k1000000, jN_add, jN_mul, jN_clamp, jN_inbT, Bool.false_eq_true, Bool.true_eq_false, jN_eq, x5, jN_div]
  by_cases c : p = rot
  · rw [if_pos c, if_pos c]
    simp (disch := omega) only [Option.bind_some, jN_le]
    by_cases c2 : T 6 p / 2 < l
    · rw [if_neg (by omega)]; simp [c2]
    · rw [if_pos (by omega)]; simp [c2]
  · rw [if_neg c, if_neg c]
    simp (disch := omega) only [Option.bind_some, jN_le]
    by_cases c2 : T 6 p < l
    · rw [if_neg (by omega)]; simp [c2]
    · rw [if_pos (by omega)]; simp [c2]
theorem brkM {T : Nat → Nat → Nat} {z : zkM} {rot p l : Nat} (hT : zTb T) (hm : zTm T z.1) (hp : p < T 0 1) (hr : rot < 1000) (hl : l < 1000) : fMd_breaks z (jN rot) (jN p) (jN l) = some (brk T rot p l) := by
  obtain ⟨t1, t2, t3, t4, t5, t6⟩ := id hT
  have h5 := t5 p hp
  have x5 := (hm.2.2.2.2.1 p hp).2.2
  unfold fMd_breaks brk
  simp (disch := omega) only [zk_let, Option.bind_some, cond_true, cond_false, if_true, if_false, zbF, zbT, within_in, jn9, k0, k1, k2, k3, k4, k5, k6, k7, k8, k9, k10, k12, k16, k17, k20, k29, k30, k31, k32, k36, k40, k41, k42, k48, k57, k59, k60, k64, k98, k99, k100, k112, k128, k200, k255, k256, k378, k420, k999, k1000000, jN_add, jN_mul, jN_clamp, jN_inbT, Bool.false_eq_true, Bool.true_eq_false, jN_eq, x5, jN_div]
  by_cases c : p = rot
  · rw [if_pos c, if_pos c]
    simp (disch := omega) only [Option.bind_some, jN_le]
    by_cases c2 : T 6 p / 2 < l
    · rw [if_neg (by omega)]; simp [c2]
    · rw [if_pos (by omega)]; simp [c2]
  · rw [if_neg c, if_neg c]
    simp (disch := omega) only [Option.bind_some, jN_le]
    by_cases c2 : T 6 p < l
    · rw [if_neg (by omega)]; simp [c2]
    · rw [if_pos (by omega)]; simp [c2]
/-- a TEST agrees; the first k do -/
def ag (T Q : Nat → Nat → Nat) (rot k : Nat) : Bool := brk T rot (Q 0 k) (Q 1 k) == decide (Q 2 k = 1)
def agB (T Q : Nat → Nat → Nat) (rot : Nat) : Nat → Bool
  | 0 => true
  | k + 1 => agB T Q rot k && ag T Q rot k
theorem agB_all {T Q : Nat → Nat → Nat} {rot K : Nat} : agB T Q rot K = true ↔ ∀ k, k < K → ag T Q rot k = true := by
  induction K with
  | zero => simp [agB]
  | succ K ih =>
    simp only [agB, Bool.and_eq_true, ih]
    constructor
    · intro ⟨h1, h2⟩ k hk
      by_cases c : k = K
      · subst c; exact h2
      · exact h1 k (by omega)
    · intro h
      exact ⟨fun k hk => h k (by omega), h K (by omega)⟩
def zQx (T Q : Nat → Nat → Nat) (N : Nat) (s : Nat → Nat → Int32) : Prop := N ≤ 6 ∧ s 26 0 = jN N ∧ ∀ k, k < N → Q 0 k < T 0 1 ∧ Q 1 k ≤ 60 ∧ Q 2 k ≤ 1 ∧ s 27 k = jN (Q 0 k) ∧ s 28 k = jN (Q 1 k) ∧ s 29 k = jN (Q 2 k)
def zQm (T Q : Nat → Nat → Nat) (N : Nat) (t : Nat → Nat → Int32) : Prop := N ≤ 6 ∧ t 0 11 = jN N ∧ ∀ k, k < N → Q 0 k < T 0 1 ∧ Q 1 k ≤ 60 ∧ Q 2 k ≤ 1 ∧ t 8 (3 * k) = jN (Q 0 k) ∧ t 8 (3 * k + 1) = jN (Q 1 k) ∧ t 8 (3 * k + 2) = jN (Q 2 k)
theorem zAll.rot {T R : Nat → Nat → Nat} {y z : zkM} (h : zAll T R y z) : ∃ N Q, zQx T Q N y.1 ∧ zQm T Q N z.1 := by
  obtain ⟨h1, h2, h3, h4, h5, h6, h7, h8, h9, -⟩ := h
  obtain ⟨N, Q, a1, a2, a3, a4⟩ := h9.ex h1.2.1
  refine ⟨N, Q, ⟨a1, a2, fun k hk => ?_⟩, ⟨a1, a3, fun k hk => ?_⟩⟩
  · obtain ⟨b1, b2, b3, b4, b5, b6, b7, b8, b9⟩ := a4 k hk
    exact ⟨b1, b2, b3, b4, b6, b8⟩
  · obtain ⟨b1, b2, b3, b4, b5, b6, b7, b8, b9⟩ := a4 k hk
    exact ⟨b1, b2, b3, b5, b7, b9⟩
theorem agreesX {T Q : Nat → Nat → Nat} {N rot : Nat} {y : zkM} (hT : zTb T) (hx : zTx T y.1) (hq : zQx T Q N y.1) (hr : rot < 1000) : fRot_agrees y (jN rot) = some (agB T Q rot N) := by
  obtain ⟨n6, e26, hk⟩ := hq
  have t2 := hT.2.1
  have stp : ∀ n (s : Unit) k, k < N → True → fRot_agrees_L2 (n + 1) y (jN rot) (jN k) = if ag T Q rot k = true then fRot_agrees_L2 n y (jN rot) (jN (k + 1)) else some (.inl false) := by
    intro n s k hkN _
    obtain ⟨b1, b2, b3, b4, b5, b6⟩ := hk k hkN
    simp only [fRot_agrees_L2, e26, b4, b5, b6]
    simp (disch := omega) only [zk_let, Option.bind_some, cond_true, cond_false, if_true, if_false, zbF, zbT, within_in, jn9, k0, k1, k2, k3, k4, k5, k6, k7, k8, k9, k10, k12, k16, k17, k20, k29, k30, k31, k32, k36, k40, k41, k42, k48, k57, k59, k60, k64, k98, k99, k100, k112, k128, k200, k255, k256, k378, k420, k999, k1000000, jN_add, jN_mul, jN_clamp, jN_inbT, Bool.false_eq_true, Bool.true_eq_false, b4, b5, b6, jN_le, brkX hT hx b1 hr (show Q 1 k < 1000 by omega), jN_eq]
    rw [if_neg (by omega)]
    unfold ag
    by_cases c : Q 2 k = 1
    · simp only [c, if_true, decide_true]
      cases brk T rot (Q 0 k) (Q 1 k) <;> rfl
    · simp only [c, if_false, decide_false]
      cases brk T rot (Q 0 k) (Q 1 k) <;> rfl
  unfold fRot_agrees
  rw [k0]
  rcases zl_leastF (fun k => ¬ ag T Q rot k = true) 0 N with ⟨m, -, hm, hc, hn⟩ | hn
  · obtain ⟨r, e, rfl⟩ := zl_find (fun n (s : Unit) k => fRot_agrees_L2 n y (jN rot) (jN k)) (fun k => ¬ ag T Q rot k = true) (fun _ _ => True) (fun _ r => r = false) N (by
      intro n s k h1 h2 h3
      refine ⟨(), ?_, trivial⟩
      rw [stp n s k h1 h2, if_pos (Decidable.not_not.mp h3)]) (by
      intro n s k h1 h2 h3
      exact ⟨false, by rw [stp n s k h1 h2, if_neg h3], rfl⟩) m 0 m 500 () (by omega) hm hn hc trivial (by omega)
    have : agB T Q rot N = false := by
      cases e9 : agB T Q rot N with
      | false => rfl
      | true => exact absurd (agB_all.mp e9 m hm) hc
    rw [this]
    rw [e]; rfl
  · obtain ⟨s', e, -⟩ := zl_none (fun n (s : Unit) k => fRot_agrees_L2 n y (jN rot) (jN k)) (fun k => ¬ ag T Q rot k = true) (fun _ _ => True) N (by
      intro n s k h1 h2 h3
      refine ⟨(), ?_, trivial⟩
      rw [stp n s k h1 h2, if_pos (Decidable.not_not.mp h3)]) (by
      intro n s _
      simp only [fRot_agrees_L2, e26]
      simp (disch := omega) only [zk_let, Option.bind_some, cond_true, cond_false, if_true, if_false, zbF, zbT, within_in, jn9, k0, k1, k2, k3, k4, k5, k6, k7, k8, k9, k10, k12, k16, k17, k20, k29, k30, k31, k32, k36, k40, k41, k42, k48, k57, k59, k60, k64, k98, k99, k100, k112, k128, k200, k255, k256, k378, k420, k999, k1000000, jN_add, jN_mul, jN_clamp, jN_inbT, Bool.false_eq_true, Bool.true_eq_false, jN_le]
      rw [if_pos (by omega)]) N 0 500 () (by omega) hn trivial (by omega)
    have : agB T Q rot N = true := agB_all.mpr (fun k h1 => Decidable.not_not.mp (hn k (by omega) h1))
    rw [this, e]; rfl
theorem agreesM {T Q : Nat → Nat → Nat} {N rot : Nat} {z : zkM} (hT : zTb T) (hm : zTm T z.1) (hq : zQm T Q N z.1) (hr : rot < 1000) : fMd_mayBeNow_L17 500 z (jN rot) (jN 1) (jN 0) = some (zk_b (agB T Q rot N)) := by
  obtain ⟨n6, e26, hk⟩ := hq
  have t2 := hT.2.1
  have := zl_eq (fun n (s : Int32 × Int32) => fMd_mayBeNow_L17 n z (jN rot) s.1 s.2) (fun k => (zk_b (agB T Q rot k), jN k)) N (zk_b (agB T Q rot N)) ?_ ?_ 500 (by omega)
  · exact this
  · intro n k hkN
    obtain ⟨b1, b2, b3, b4, b5, b6⟩ := hk k hkN
    simp only [fMd_mayBeNow_L17, e26]
    simp (disch := omega) only [zk_let, Option.bind_some, cond_true, cond_false, if_true, if_false, zbF, zbT, within_in, jn9, k0, k1, k2, k3, k4, k5, k6, k7, k8, k9, k10, k12, k16, k17, k20, k29, k30, k31, k32, k36, k40, k41, k42, k48, k57, k59, k60, k64, k98, k99, k100, k112, k128, k200, k255, k256, k378, k420, k999, k1000000, jN_add, jN_mul, jN_clamp, jN_inbT, Bool.false_eq_true, Bool.true_eq_false, b4, b5, b6, jN_le, brkM hT hm b1 hr (show Q 1 k < 1000 by omega), jN_eq]
    rw [if_neg (by omega)]
    simp only [agB, ag]
    cases agB T Q rot k
    · simp only [if_true, Option.bind_some, Bool.false_and]
    · simp only [Bool.true_eq_false, if_false, Bool.true_and]
      by_cases c : Q 2 k = 1
      · simp only [c, if_true, decide_true]
        cases brk T rot (Q 0 k) (Q 1 k) <;> rfl
      · simp only [c, if_false, decide_false]
        cases brk T rot (Q 0 k) (Q 1 k) <;> rfl
  · intro n
    simp only [fMd_mayBeNow_L17, e26]
    simp (disch := omega) only [zk_let, Option.bind_some, cond_true, cond_false, if_true, if_false, zbF, zbT, within_in, jn9, k0, k1, k2, k3, k4, k5, k6, k7, k8, k9, k10, k12, k16, k17, k20, k29, k30, k31, k32, k36, k40, k41, k42, k48, k57, k59, k60, k64, k98, k99, k100, k112, k128, k200, k255, k256, k378, k420, k999, k1000000, jN_add, jN_mul, jN_clamp, jN_inbT, Bool.false_eq_true, Bool.true_eq_false, jN_le]
    rw [if_pos (by omega)]
def sus (T Q : Nat → Nat → Nat) (N : Nat) : Nat := bs (fun p => agB T Q p N) (T 0 1)
theorem susX {T Q : Nat → Nat → Nat} {N : Nat} {y : zkM} (hT : zTb T) (hx : zTx T y.1) (hq : zQx T Q N y.1) : fRot_suspects y = some (jN (sus T Q N)) := by
  have t2 := hT.2.1
  unfold fRot_suspects
  have := zl_eq (fun n (s : Int32 × Int32) => fRot_suspects_L4 n y s.1 s.2) (fun k => (jN (bs (fun p => agB T Q p N) k), jN k)) (T 0 1) (jN (sus T Q N)) ?_ ?_ 500 (by omega)
  · rw [k0]; dsimp only at this; rw [show bs (fun p => agB T Q p N) 0 = 0 from rfl] at this; rw [this]; rfl
  · intro n k hk
    simp only [fRot_suspects_L4, agreesX hT hx hq (show k < 1000 by omega)]
    simp (disch := omega) only [zk_let, Option.bind_some, cond_true, cond_false, if_true, if_false, zbF, zbT, within_in, jn9, k0, k1, k2, k3, k4, k5, k6, k7, k8, k9, k10, k12, k16, k17, k20, k29, k30, k31, k32, k36, k40, k41, k42, k48, k57, k59, k60, k64, k98, k99, k100, k112, k128, k200, k255, k256, k378, k420, k999, k1000000, jN_add, jN_mul, jN_clamp, jN_inbT, Bool.false_eq_true, Bool.true_eq_false, hx.2.1, jN_le]
    rw [if_neg (by omega)]
    cases e : agB T Q k N
    · rw [bs_out (f := fun p => agB T Q p N) e]; simp only [if_true]
    · rw [← bs_in (f := fun p => agB T Q p N) (by omega) e]; simp only [Bool.true_eq_false, if_false]
  · intro n
    simp only [fRot_suspects_L4]
    simp (disch := omega) only [zk_let, Option.bind_some, cond_true, cond_false, if_true, if_false, zbF, zbT, within_in, jn9, k0, k1, k2, k3, k4, k5, k6, k7, k8, k9, k10, k12, k16, k17, k20, k29, k30, k31, k32, k36, k40, k41, k42, k48, k57, k59, k60, k64, k98, k99, k100, k112, k128, k200, k255, k256, k378, k420, k999, k1000000, jN_add, jN_mul, jN_clamp, jN_inbT, Bool.false_eq_true, Bool.true_eq_false, hx.2.1, jN_le]
    rw [if_pos (by omega)]; rfl
theorem susM {T Q : Nat → Nat → Nat} {N : Nat} {z : zkM} (hT : zTb T) (hm : zTm T z.1) (hq : zQm T Q N z.1) : fMd_mayBeNow z = some (jN (sus T Q N)) := by
  have t2 := hT.2.1
  unfold fMd_mayBeNow
  have := zl_eq (fun n (s : Int32 × Int32) => fMd_mayBeNow_L4 n z s.1 s.2) (fun k => (jN (bs (fun p => agB T Q p N) k), jN k)) (T 0 1) (jN (sus T Q N)) ?_ ?_ 500 (by omega)
  · rw [k0]; dsimp only at this; rw [show bs (fun p => agB T Q p N) 0 = 0 from rfl] at this; rw [this]; rfl
  · intro n k hk
    simp only [fMd_mayBeNow_L4, k0, k1, agreesM hT hm hq (show k < 1000 by omega)]
    simp (disch := omega) only [zk_let, Option.bind_some, cond_true, cond_false, if_true, if_false, zbF, zbT, within_in, jn9, k0, k1, k2, k3, k4, k5, k6, k7, k8, k9, k10, k12, k16, k17, k20, k29, k30, k31, k32, k36, k40, k41, k42, k48, k57, k59, k60, k64, k98, k99, k100, k112, k128, k200, k255, k256, k378, k420, k999, k1000000, jN_add, jN_mul, jN_clamp, jN_inbT, Bool.false_eq_true, Bool.true_eq_false, hm.2.1, jN_le]
    rw [if_neg (by omega)]
    have ho : jN (bs (fun p => agB T Q p N) k) ||| jN 0 = jN (bs (fun p => agB T Q p N) k) := by rw [jN_or, Nat.or_zero]
    cases e : agB T Q k N
    · rw [bs_out (f := fun p => agB T Q p N) e]; simp only [if_true, ho]
    · rw [← bs_in (f := fun p => agB T Q p N) (by omega) e]; simp only [Bool.true_eq_false, if_false]
  · intro n
    simp only [fMd_mayBeNow_L4]
    simp (disch := omega) only [zk_let, Option.bind_some, cond_true, cond_false, if_true, if_false, zbF, zbT, within_in, jn9, k0, k1, k2, k3, k4, k5, k6, k7, k8, k9, k10, k12, k16, k17, k20, k29, k30, k31, k32, k36, k40, k41, k42, k48, k57, k59, k60, k64, k98, k99, k100, k112, k128, k200, k255, k256, k378, k420, k999, k1000000, jN_add, jN_mul, jN_clamp, jN_inbT, Bool.false_eq_true, Bool.true_eq_false, hm.2.1, jN_le]
    rw [if_pos (by omega)]; rfl
theorem pr_mayBe {y z : zkM} (h : zRel y z) : ∃ v y' z', sX_mayBe y v y' ∧ sM_mayBe z v z' ∧ zRel y' z' := by
  obtain ⟨T, R, hA⟩ := h.all
  obtain ⟨hT, hx, hm, -⟩ := id hA
  obtain ⟨N, Q, qx, qm⟩ := hA.rot
  refine ⟨jN (sus T Q N), y, z, ⟨?_, rfl⟩, ⟨?_, rfl⟩, h⟩
  · unfold fTp_mayBe; rw [susX hT hx qx]; rfl
  · unfold fMd_mayBe; rw [susM hT hm qm]; rfl
theorem cnt_imp {f g : Nat → Bool} {K : Nat} (h : ∀ k, f k = true → g k = true) : cnt f K ≤ cnt g K := by
  induction K with
  | zero => simp [cnt]
  | succ K ih =>
    simp only [cnt]
    by_cases c : f K = true
    · rw [if_pos c, if_pos (h K c)]; omega
    · rw [if_neg c]; split <;> omega
theorem cnt_mono {f : Nat → Bool} {K L : Nat} (h : K ≤ L) : cnt f K ≤ cnt f L := by
  induction L with
  | zero => rw [show K = 0 by omega]; exact Nat.le_refl _
  | succ L ih =>
    by_cases c : K = L + 1
    · rw [c]; exact Nat.le_refl _
    · have := ih (by omega)
      simp only [cnt]; omega
/-- how many break; how many are left at worst -/
def nb (T : Nat → Nat → Nat) (s p l K : Nat) : Nat := cnt (fun rot => s.testBit rot && brk T rot p l) K
theorem nb_s {T : Nat → Nat → Nat} {s p l k : Nat} : nb T s p l (k + 1) = nb T s p l k + (if (s.testBit k && brk T k p l) = true then 1 else 0) := rfl
def lw (T : Nat → Nat → Nat) (s p l : Nat) : Nat := if nb T s p l (T 0 1) ≤ pc s - nb T s p l (T 0 1) then pc s - nb T s p l (T 0 1) else nb T s p l (T 0 1)
theorem nb_le {T : Nat → Nat → Nat} {s p l : Nat} (hT : zTb T) : nb T s p l (T 0 1) ≤ pc s := by
  have t2 := hT.2.1
  exact Nat.le_trans (cnt_imp (fun k h => by rw [Bool.and_eq_true] at h; exact h.1)) (cnt_mono (by omega))
theorem lw_le {T : Nat → Nat → Nat} {s p l : Nat} (hT : zTb T) (hs : s < 64) : lw T s p l ≤ 6 := by
  have h1 := nb_le (s := s) (p := p) (l := l) hT
  have h2 := pc_lt s hs
  unfold lw; split <;> omega
theorem lwX {T : Nat → Nat → Nat} {y : zkM} {s p l : Nat} (hT : zTb T) (hx : zTx T y.1) (hp : p < T 0 1) (hl : l < 1000) (hs : s < 64) : fRot_leftAtWorst y (jN p) (jN l) (jN s) = some (jN (lw T s p l)) := by
  have t2 := hT.2.1
  have h1 := nb_le (s := s) (p := p) (l := l) hT
  have h2 := pc_lt s hs
  unfold fRot_leftAtWorst
  have := zl_eq (fun n (q : Int32 × Int32) => fRot_leftAtWorst_L6 n y (jN p) (jN l) (jN s) q.1 q.2) (fun k => (jN (nb T s p l k), jN k)) (T 0 1) (jN (nb T s p l (T 0 1))) ?_ ?_ 500 (by omega)
  · rw [k0]; dsimp only at this; rw [show nb T s p l 0 = 0 from rfl] at this; rw [this]
    have hbc : fJint_bitCount (jN s) = jN (pc s) := bitCount_jN (by omega)
    simp only [Option.bind_some, hbc, jN_sub h1, zk_max, lw]
    simp (disch := omega) only [jN_lt]
    by_cases c : nb T s p l (T 0 1) < pc s - nb T s p l (T 0 1)
    · rw [if_pos c, if_pos (by omega)]
    · rw [if_neg c]
      by_cases c2 : nb T s p l (T 0 1) ≤ pc s - nb T s p l (T 0 1)
      · rw [if_pos c2]; congr 2; omega
      · rw [if_neg c2]
  · intro n k hk
    simp only [fRot_leftAtWorst_L6]
    simp (disch := omega) only [zk_let, Option.bind_some, cond_true, cond_false, if_true, if_false, zbF, zbT, within_in, jn9, k0, k1, k2, k3, k4, k5, k6, k7, k8, k9, k10, k12, k16, k17, k20, k29, k30, k31, k32, k36, k40, k41, k42, k48, k57, k59, k60, k64, k98, k99, k100, k112, k128, k200, k255, k256, k378, k420, k999, k1000000, jN_add, jN_mul, jN_clamp, jN_inbT, Bool.false_eq_true, Bool.true_eq_false, hx.2.1, jN_le, shr_all s (by omega) k (by omega), brkX hT hx hp (show k < 1000 by omega) hl]
    rw [if_neg (by omega)]
    rw [nb_s]
    cases s.testBit k
    · simp only [Bool.false_eq_true, if_false, if_true, Option.bind_some, Bool.false_and, Nat.add_zero]
    · simp only [if_true, Bool.true_and]
      rw [if_neg (by decide)]
      cases brk T k p l
      · simp only [if_true, Bool.false_eq_true, if_false, Option.bind_some, Nat.add_zero]
      · simp only [if_true, Bool.true_eq_false, if_false, Option.bind_some]
  · intro n
    simp only [fRot_leftAtWorst_L6]
    simp (disch := omega) only [zk_let, Option.bind_some, cond_true, cond_false, if_true, if_false, zbF, zbT, within_in, jn9, k0, k1, k2, k3, k4, k5, k6, k7, k8, k9, k10, k12, k16, k17, k20, k29, k30, k31, k32, k36, k40, k41, k42, k48, k57, k59, k60, k64, k98, k99, k100, k112, k128, k200, k255, k256, k378, k420, k999, k1000000, jN_add, jN_mul, jN_clamp, jN_inbT, Bool.false_eq_true, Bool.true_eq_false, hx.2.1, jN_le]
    rw [if_pos (by omega)]
theorem ask44 {T : Nat → Nat → Nat} {z : zkM} {s i : Nat} (hT : zTb T) (hm : zTm T z.1) (hi : i < 40 * T 0 1) (hs : s < 64) : fMd_ask_L44 500 z (jN s) (jN i) (jN 0) (jN 0) = some (jN (nb T s (i / 40) (i % 40 + 1) (T 0 1))) := by
  have t2 := hT.2.1
  have := zl_eq (fun n (q : Int32 × Int32) => fMd_ask_L44 n z (jN s) (jN i) q.1 q.2) (fun k => (jN (nb T s (i / 40) (i % 40 + 1) k), jN k)) (T 0 1) (jN (nb T s (i / 40) (i % 40 + 1) (T 0 1))) ?_ ?_ 500 (by omega)
  · exact this
  · intro n k hk
    simp only [fMd_ask_L44]
    rw [has_all (by omega) (by omega)]
    have e1 : jN i - jN (i / 40 * 40) = jN (i % 40) := by rw [jN_sub (by omega)]; congr 1; omega
    simp (disch := omega) only [zk_let, Option.bind_some, cond_true, cond_false, if_true, if_false, zbF, zbT, within_in, jn9, k0, k1, k2, k3, k4, k5, k6, k7, k8, k9, k10, k12, k16, k17, k20, k29, k30, k31, k32, k36, k40, k41, k42, k48, k57, k59, k60, k64, k98, k99, k100, k112, k128, k200, k255, k256, k378, k420, k999, k1000000, jN_add, jN_mul, jN_clamp, jN_inbT, Bool.false_eq_true, Bool.true_eq_false, hm.2.1, jN_le, jN_div, e1, brkM hT hm (show i / 40 < T 0 1 by omega) (show k < 1000 by omega) (show i % 40 + 1 < 1000 by omega)]
    rw [if_neg (by omega)]
    rw [nb_s]
    have z0 : zk_b false = jN 0 := by decide
    have z1 : zk_b true = jN 1 := by decide
    cases s.testBit k
    · simp only [Bool.false_eq_true, if_false, if_true, Option.bind_some, Bool.false_and, z0, jN_add]
    · simp only [if_true, Bool.true_eq_false, if_false, Bool.true_and]
      cases brk T k (i / 40) (i % 40 + 1)
      · simp only [if_true, Bool.false_eq_true, if_false, Option.bind_some, z0, jN_add]
      · simp only [if_true, Bool.true_eq_false, if_false, Option.bind_some, z1, jN_add]
  · intro n
    simp only [fMd_ask_L44]
    simp (disch := omega) only [zk_let, Option.bind_some, cond_true, cond_false, if_true, if_false, zbF, zbT, within_in, jn9, k0, k1, k2, k3, k4, k5, k6, k7, k8, k9, k10, k12, k16, k17, k20, k29, k30, k31, k32, k36, k40, k41, k42, k48, k57, k59, k60, k64, k98, k99, k100, k112, k128, k200, k255, k256, k378, k420, k999, k1000000, jN_add, jN_mul, jN_clamp, jN_inbT, Bool.false_eq_true, Bool.true_eq_false, hm.2.1, jN_le]
    rw [if_pos (by omega)]
/-- the best trial of the first k, and what it leaves -/
def trl (f : Nat → Nat) : Nat → Nat × Nat
  | 0 => (0, 7)
  | k + 1 => if f k < (trl f k).2 then (k, f k) else trl f k
theorem trl_le (f : Nat → Nat) (k : Nat) : (trl f k).1 ≤ k ∧ (trl f k).2 ≤ 7 := by
  induction k with
  | zero => simp [trl]
  | succ k ih =>
    simp only [trl]
    split
    · exact ⟨by show k ≤ k + 1; omega, by show f k ≤ 7; omega⟩
    · omega
theorem trl_lt {f : Nat → Nat} (hf : ∀ k, f k ≤ 6) {k : Nat} (hk : 1 ≤ k) : (trl f k).2 < 7 := by
  induction k with
  | zero => omega
  | succ k ih =>
    simp only [trl]
    split
    · have := hf k; show f k < 7; omega
    · rename_i c
      by_cases c0 : k = 0
      · subst c0; have := hf 0; simp only [trl] at c; omega
      · exact ih (by omega)
def lwK (T : Nat → Nat → Nat) (s k : Nat) : Nat := lw T s (k / 40) (k % 40 + 1)
def mY (q : Nat × Nat) : Int32 := if q.2 = 7 then jNo else jN q.1
theorem askM {T : Nat → Nat → Nat} {z : zkM} {s : Nat} (hT : zTb T) (hm : zTm T z.1) (hs : s < 64) : fMd_ask_L26 500 z (jN s) jNo (jN 7) (jN 0) = some (mY (trl (lwK T s) (40 * T 0 1))) := by
  have t2 := hT.2.1
  have := zl_eq (fun n (q : Int32 × Int32 × Int32) => fMd_ask_L26 n z (jN s) q.1 q.2.1 q.2.2) (fun k => (mY (trl (lwK T s) k), jN (trl (lwK T s) k).2, jN k)) (40 * T 0 1) (mY (trl (lwK T s) (40 * T 0 1))) ?_ ?_ 500 (by omega)
  · exact this
  · intro n k hk
    have h1 := nb_le (s := s) (p := k / 40) (l := k % 40 + 1) hT
    have h2 := pc_lt s hs
    have h3 := trl_le (lwK T s) k
    have h4 := lw_le (s := s) (p := k / 40) (l := k % 40 + 1) hT hs
    simp only [fMd_ask_L26, k0, ask44 hT hm hk hs, bitsM (z := z) hs]
    simp (disch := omega) only [zk_let, Option.bind_some, cond_true, cond_false, if_true, if_false, zbF, zbT, within_in, jn9, k0, k1, k2, k3, k4, k5, k6, k7, k8, k9, k10, k12, k16, k17, k20, k29, k30, k31, k32, k36, k40, k41, k42, k48, k57, k59, k60, k64, k98, k99, k100, k112, k128, k200, k255, k256, k378, k420, k999, k1000000, jN_add, jN_mul, jN_clamp, jN_inbT, Bool.false_eq_true, Bool.true_eq_false, hm.2.1, jN_le, jN_sub h1]
    rw [if_neg (by omega)]
    have e1 : (if nb T s (k / 40) (k % 40 + 1) (T 0 1) ≤ pc s - nb T s (k / 40) (k % 40 + 1) (T 0 1) then jN (pc s - nb T s (k / 40) (k % 40 + 1) (T 0 1)) else jN (nb T s (k / 40) (k % 40 + 1) (T 0 1))) = jN (lwK T s k) := by
      unfold lwK lw; split <;> rfl
    rw [e1]
    have h5 : lwK T s k ≤ 6 := h4
    simp (disch := omega) only [jN_le]
    simp only [trl]
    by_cases c : lwK T s k < (trl (lwK T s) k).2
    · rw [if_neg (by omega), if_neg (by omega), if_pos c]
      have : mY (k, lwK T s k) = jN k := by unfold mY; exact if_neg (by show ¬ lwK T s k = 7; omega)
      rw [this]
    · rw [if_pos (by omega), if_pos (by omega), if_neg c]
  · intro n
    simp only [fMd_ask_L26]
    simp (disch := omega) only [zk_let, Option.bind_some, cond_true, cond_false, if_true, if_false, zbF, zbT, within_in, jn9, k0, k1, k2, k3, k4, k5, k6, k7, k8, k9, k10, k12, k16, k17, k20, k29, k30, k31, k32, k36, k40, k41, k42, k48, k57, k59, k60, k64, k98, k99, k100, k112, k128, k200, k255, k256, k378, k420, k999, k1000000, jN_add, jN_mul, jN_clamp, jN_inbT, Bool.false_eq_true, Bool.true_eq_false, hm.2.1, jN_le]
    rw [if_pos (by omega)]
/-- the class's row of a trial -/
def zTr (q : Nat × Nat) (a : Int32) (r : Nat → Int32) : Prop := r 0 = a ∧ (q.2 < 7 → r 1 = jN (q.1 / 40) ∧ r 2 = jN (q.1 % 40 + 1))
theorem trial24 {T : Nat → Nat → Nat} {y : zkM} {s p : Nat} {r : Nat → Int32} (hT : zTb T) (hx : zTx T y.1) (hs : s < 64) (hp : p < T 0 1) (hr : zTr (trl (lwK T s) (40 * p)) (y.1 26 0) r) : ∃ r', fRot_seekTrial_L24 500 (zk_row y 26 r) (jN s) (jN (trl (lwK T s) (40 * p)).2) (jN p) (jN 1) = some (jN (trl (lwK T s) (40 * p + 40)).2, zk_row y 26 r') ∧ zTr (trl (lwK T s) (40 * p + 40)) (y.1 26 0) r' := by
  have t2 := hT.2.1
  obtain ⟨q, h1, r', h2, h3⟩ := zl_loop (fun n (q : zkM × Int32 × Int32) => fRot_seekTrial_L24 n q.1 (jN s) q.2.1 (jN p) q.2.2) (fun j q => q.2.2 = jN (j + 1) ∧ q.2.1 = jN (trl (lwK T s) (40 * p + j)).2 ∧ ∃ r, q.1 = zk_row y 26 r ∧ zTr (trl (lwK T s) (40 * p + j)) (y.1 26 0) r) 40 (fun q => ∃ r, q = (jN (trl (lwK T s) (40 * p + 40)).2, zk_row y 26 r) ∧ zTr (trl (lwK T s) (40 * p + 40)) (y.1 26 0) r) (by
    rintro n j ⟨m, x3, x5⟩ hj ⟨e1, e2, r, e3, hr⟩
    dsimp only at e1 e2 e3
    subst e1; subst e2; subst e3
    have hx' : zTx T (zk_row y 26 r).1 := hx.congr rfl rfl rfl rfl rfl rfl rfl rfl
    simp only [fRot_seekTrial_L24]
    by_cases c : j = 40
    · left
      subst c
      refine ⟨_, ?_, r, rfl, hr⟩
      simp (disch := omega) only [zk_let, Option.bind_some, cond_true, cond_false, if_true, if_false, zbF, zbT, within_in, jn9, k0, k1, k2, k3, k4, k5, k6, k7, k8, k9, k10, k12, k16, k17, k20, k29, k30, k31, k32, k36, k40, k41, k42, k48, k57, k59, k60, k64, k98, k99, k100, k112, k128, k200, k255, k256, k378, k420, k999, k1000000, jN_add, jN_mul, jN_clamp, jN_inbT, Bool.false_eq_true, Bool.true_eq_false, jN_lt]
      rfl
    · right
      have h3 := trl_le (lwK T s) (40 * p + j)
      have h4 := lw_le (s := s) (p := p) (l := j + 1) hT hs
      have hlk : lwK T s (40 * p + j) = lw T s p (j + 1) := by unfold lwK; rw [show (40 * p + j) / 40 = p by omega, show (40 * p + j) % 40 = j by omega]
      refine ⟨by omega, ?_⟩
      simp (disch := omega) only [zk_let, Option.bind_some, cond_true, cond_false, if_true, if_false, zbF, zbT, within_in, jn9, k0, k1, k2, k3, k4, k5, k6, k7, k8, k9, k10, k12, k16, k17, k20, k29, k30, k31, k32, k36, k40, k41, k42, k48, k57, k59, k60, k64, k98, k99, k100, k112, k128, k200, k255, k256, k378, k420, k999, k1000000, jN_add, jN_mul, jN_clamp, jN_inbT, Bool.false_eq_true, Bool.true_eq_false, jN_lt, jN_le, lwX hT hx' hp (show j + 1 < 1000 by omega) hs]
      rw [if_neg (by omega)]
      rw [show 40 * p + (j + 1) = 40 * p + j + 1 by omega]
      simp only [trl, hlk]
      by_cases c2 : lw T s p (j + 1) < (trl (lwK T s) (40 * p + j)).2
      · refine ⟨(zk_row y 26 (upd (upd r 1 (jN p)) 2 (jN (j + 1))), jN (lw T s p (j + 1)), jN (j + 1 + 1)), ?_, rfl, ?_, _, rfl, ?_⟩
        · rw [if_neg (by omega)]
          simp only [zk_u_row, zk_row_row, zk_row_on]
        · rw [if_pos c2]
        · rw [if_pos c2]
          refine ⟨by rw [upd_ne (by omega), upd_ne (by omega)]; exact hr.1, fun _ => ⟨?_, ?_⟩⟩
          · rw [upd_ne (by omega), upd_same]; congr 1; show p = (40 * p + j) / 40; omega
          · rw [upd_same]; congr 1; show j + 1 = (40 * p + j) % 40 + 1; omega
      · refine ⟨(zk_row y 26 r, jN (trl (lwK T s) (40 * p + j)).2, jN (j + 1 + 1)), ?_, rfl, ?_, _, rfl, ?_⟩
        · rw [if_pos (by omega)]
        · rw [if_neg c2]
        · rw [if_neg c2]; exact hr) 500 (zk_row y 26 r, jN (trl (lwK T s) (40 * p)).2, jN 1) ⟨rfl, rfl, r, rfl, hr⟩ (by omega)
  subst h2
  exact ⟨r', h1, h3⟩
theorem trial12 {T : Nat → Nat → Nat} {y : zkM} {s : Nat} (hT : zTb T) (hx : zTx T y.1) (hs : s < 64) : ∃ r', fRot_seekTrial_L12 500 y (jN s) (jN 7) (jN 0) = some (zk_row y 26 r') ∧ zTr (trl (lwK T s) (40 * T 0 1)) (y.1 26 0) r' := by
  have t2 := hT.2.1
  obtain ⟨q, h1, r', h2, h3⟩ := zl_loop (fun n (q : zkM × Int32 × Int32) => fRot_seekTrial_L12 n q.1 (jN s) q.2.1 q.2.2) (fun k q => q.2.2 = jN k ∧ q.2.1 = jN (trl (lwK T s) (40 * k)).2 ∧ ∃ r, q.1 = zk_row y 26 r ∧ zTr (trl (lwK T s) (40 * k)) (y.1 26 0) r) (T 0 1) (fun q => ∃ r, q = zk_row y 26 r ∧ zTr (trl (lwK T s) (40 * T 0 1)) (y.1 26 0) r) (by
    rintro n k ⟨m, x3, x5⟩ hk ⟨e1, e2, r, e3, hr⟩
    dsimp only at e1 e2 e3
    subst e1; subst e2; subst e3
    have hP : (zk_row y 26 r).1 46 1 = jN (T 0 1) := by rw [zk_row_off (by omega)]; exact hx.2.1
    simp only [fRot_seekTrial_L12, hP]
    by_cases c : k = T 0 1
    · left
      refine ⟨_, ?_, r, rfl, c ▸ hr⟩
      simp (disch := omega) only [zk_let, Option.bind_some, cond_true, cond_false, if_true, if_false, zbF, zbT, within_in, jn9, k0, k1, k2, k3, k4, k5, k6, k7, k8, k9, k10, k12, k16, k17, k20, k29, k30, k31, k32, k36, k40, k41, k42, k48, k57, k59, k60, k64, k98, k99, k100, k112, k128, k200, k255, k256, k378, k420, k999, k1000000, jN_add, jN_mul, jN_clamp, jN_inbT, Bool.false_eq_true, Bool.true_eq_false, jN_le]
      rw [if_pos (by omega)]
    · right
      obtain ⟨r', e, hr'⟩ := trial24 hT hx hs (show k < T 0 1 by omega) hr
      refine ⟨by omega, (zk_row y 26 r', jN (trl (lwK T s) (40 * (k + 1))).2, jN (k + 1)), ?_, rfl, rfl, r', rfl, ?_⟩
      · simp (disch := omega) only [zk_let, Option.bind_some, cond_true, cond_false, if_true, if_false, zbF, zbT, within_in, jn9, k0, k1, k2, k3, k4, k5, k6, k7, k8, k9, k10, k12, k16, k17, k20, k29, k30, k31, k32, k36, k40, k41, k42, k48, k57, k59, k60, k64, k98, k99, k100, k112, k128, k200, k255, k256, k378, k420, k999, k1000000, jN_add, jN_mul, jN_clamp, jN_inbT, Bool.false_eq_true, Bool.true_eq_false, jN_le, e]
        rw [if_neg (by omega), show 40 * (k + 1) = 40 * k + 40 by omega]
      · rw [show 40 * (k + 1) = 40 * k + 40 by omega]; exact hr') 500 (y, jN 7, jN 0) ⟨rfl, rfl, y.1 26, zk_row_self.symm, rfl, fun h => by simp [trl] at h⟩ (by omega)
  subst h2
  exact ⟨r', h1, h3⟩
theorem pr_ask {y z : zkM} (h : zRel y z) (a1 : Int32) : ∃ v y' z', sX_ask y a1 v y' ∧ sM_ask z a1 v z' ∧ zRel y' z' := by
  obtain ⟨T, R, hA⟩ := h.all
  obtain ⟨hT, hx, hm, -⟩ := id hA
  have t2 := hT.2.1
  obtain ⟨N, Q, qx, qm⟩ := hA.rot
  have hs : sus T Q N < 64 := by
    have h1 := bs_lt (fun p => agB T Q p N) (T 0 1)
    have h2 : 2 ^ T 0 1 ≤ 2 ^ 6 := Nat.pow_le_pow_right (by omega) t2
    unfold sus; omega
  unfold sX_ask sM_ask fTp_ask fMd_ask fRot_seekTrial
  simp only [within_in, zbF, k0, k1, k2, k3, k4, k5, k6, k7, k8, k9, k10, k12, k16, k17, k20, k29, k30, k31, k32, k36, k40, k41, k42, k48, k57, k59, k60, k64, k98, k99, k100, k112, k128, k200, k255, k256, k378, k420, k999, k1000000]
  rcases in_fr a1 (lo := 0) (hi := 1) (by omega) (by omega) with ⟨hw, w, -, hw1, rfl⟩ | ⟨hw, -⟩
  · simp only [hw, Bool.true_eq_false, if_false, hx.2.1, susX hT hx qx, susM hT hm qm, Option.bind_some, jn9, askM hT hm hs]
    simp (disch := omega) only [jN_eq]
    by_cases c : T 0 1 = 0
    · rw [if_pos c, c]
      have : mY (trl (lwK T (sus T Q N)) (40 * 0)) = jNo := rfl
      rw [this, if_pos rfl]
      exact ⟨jNo, y, z, rfl, ⟨rfl, rfl⟩, h⟩
    · obtain ⟨r, e, hr⟩ := trial12 hT hx hs
      have h7 := trl_lt (f := lwK T (sus T Q N)) (fun k => lw_le hT hs) (show 1 ≤ 40 * T 0 1 by omega)
      have hle := trl_le (lwK T (sus T Q N)) (40 * T 0 1)
      obtain ⟨r1, r2⟩ := hr.2 h7
      have kx : zKx y (zk_row y 26 r) := ⟨fun j hj => zk_row_off (fun e => by rw [e] at hj; cases hj), rfl, rfl, rfl, by rw [zk_row_on]; exact hr.1, rfl⟩
      have hrel := (hA.same kx (zKm.rf z)).rel
      have hmY : mY (trl (lwK T (sus T Q N)) (40 * T 0 1)) = jN (trl (lwK T (sus T Q N)) (40 * T 0 1)).1 := if_neg (by omega)
      generalize trl (lwK T (sus T Q N)) (40 * T 0 1) = q at *
      rw [if_neg c, e, hmY, if_neg (jN_no (by omega))]
      simp only [Option.bind_some, zk_row_on, r1, r2]
      by_cases c0 : w = 0
      · rw [if_pos c0, if_pos c0, jN_div (by omega) (by omega)]
        exact ⟨_, _, z, rfl, ⟨rfl, rfl⟩, hrel⟩
      · rw [if_neg c0, if_neg c0, jN_div (by omega) (by omega), jN_mul, jN_sub (by omega), jN_add, show q.1 - q.1 / 40 * 40 + 1 = q.1 % 40 + 1 by omega]
        exact ⟨_, _, z, rfl, ⟨rfl, rfl⟩, hrel⟩
  · exact ⟨-jN 1, y, z, by simp [hw], by simp [hw], h⟩
