/-! the class weighs, the model lays LOADS -/
theorem zk_row_abab {y : zkM} {a b : Nat} {A B C D : Nat → Int32} : zk_row (zk_row (zk_row (zk_row y a A) b B) a C) b D = zk_row (zk_row y a C) b D := by
  apply Prod.ext
  · funext x i; simp only [zk_row]; by_cases h1 : x = b <;> by_cases h2 : x = a <;> simp [h1, h2]
  · rfl
theorem zk_row_aba {y : zkM} {a b : Nat} {A B C : Nat → Int32} : zk_row (zk_row (zk_row y a A) b B) a C = zk_row (zk_row y b B) a C := by
  apply Prod.ext
  · funext x i; simp only [zk_row]; by_cases h1 : x = b <;> by_cases h2 : x = a <;> simp [h1, h2]
  · rfl
theorem be_0 {T : Nat → Nat → Nat} {L : Nat → Nat} (h : ∀ p, L p = 0) (n b : Nat) : be T L n b = 0 := by
  induction n with
  | zero => rfl
  | succ n ih => simp [be, ih, h]
theorem fBurden_empty_L2_z {y : zkM} : ∃ r, fBurden_empty_L2 500 y 0 = some (zk_row y 7 r) ∧ ∀ i, i < 6 → r i = jN 0 := by
  obtain ⟨q, h1, r, h2, h3⟩ := zl_loop (fun n (s : zkM × Int32) => fBurden_empty_L2 n s.1 s.2) (fun k s => s.2 = jN k ∧ ∃ r, s.1 = zk_row y 7 r ∧ ∀ i, i < k → r i = jN 0) 6 (fun q => ∃ r, q = zk_row y 7 r ∧ ∀ i, i < 6 → r i = jN 0) (by
    rintro n k ⟨m, x⟩ hk ⟨e1, r, e2, hr⟩
    dsimp only at e1 e2
    subst e1; subst e2
    simp only [fBurden_empty_L2]
    by_cases c : k = 6
    · left
      refine ⟨_, ?_, r, rfl, fun i hi => hr i (by omega)⟩
      simp (disch := omega) only [zk_let, Option.bind_some, cond_true, cond_false, if_true, if_false, zbF, zbT, within_in, jn9, k0, k1, k2, k3, k4, k5, k6, k7, k8, k9, k10, k12, k16, k17, k20, k29, k30, k31, k32, k36, k40, k41, k42, k48, k57, k59, k60, k64, k98, k99, k100, k112, k128, k200, k255, k256, k378, k420, k999, k1000000, jN_add, jN_mul, jN_clamp, jN_inbT, Bool.false_eq_true, Bool.true_eq_false, jN_le]
      rw [if_pos (by omega)]
    · right
      refine ⟨by omega, (zk_row y 7 (upd r k (jN 0)), jN (k + 1)), ?_, rfl, _, rfl, fun i hi => ?_⟩
      · simp (disch := omega) only [zk_let, Option.bind_some, cond_true, cond_false, if_true, if_false, zbF, zbT, within_in, jn9, k0, k1, k2, k3, k4, k5, k6, k7, k8, k9, k10, k12, k16, k17, k20, k29, k30, k31, k32, k36, k40, k41, k42, k48, k57, k59, k60, k64, k98, k99, k100, k112, k128, k200, k255, k256, k378, k420, k999, k1000000, jN_add, jN_mul, jN_clamp, jN_inbT, Bool.false_eq_true, Bool.true_eq_false, jN_le, zk_u_row, zk_row_row, zk_row_on]
        rw [if_neg (by omega)]
      · by_cases c2 : i = k
        · rw [c2, upd_same]
        · rw [upd_ne c2]; exact hr i (by omega)) 500 (y, 0) ⟨k0, y.1 7, zk_row_self.symm, fun i h => by omega⟩ (by omega)
  exact ⟨r, by rw [← h2]; exact h1, h3⟩
theorem fBurden_empty_L23_z {y : zkM} : ∃ r, fBurden_empty_L23 500 y 0 = some (zk_row y 8 r) ∧ ∀ i, i < 8 → r i = jN 0 := by
  obtain ⟨q, h1, r, h2, h3⟩ := zl_loop (fun n (s : zkM × Int32) => fBurden_empty_L23 n s.1 s.2) (fun k s => s.2 = jN k ∧ ∃ r, s.1 = zk_row y 8 r ∧ ∀ i, i < k → r i = jN 0) 8 (fun q => ∃ r, q = zk_row y 8 r ∧ ∀ i, i < 8 → r i = jN 0) (by
    rintro n k ⟨m, x⟩ hk ⟨e1, r, e2, hr⟩
    dsimp only at e1 e2
    subst e1; subst e2
    simp only [fBurden_empty_L23]
    by_cases c : k = 8
    · left
      refine ⟨_, ?_, r, rfl, fun i hi => hr i (by omega)⟩
      simp (disch := omega) only [zk_let, Option.bind_some, cond_true, cond_false, if_true, if_false, zbF, zbT, within_in, jn9, k0, k1, k2, k3, k4, k5, k6, k7, k8, k9, k10, k12, k16, k17, k20, k29, k30, k31, k32, k36, k40, k41, k42, k48, k57, k59, k60, k64, k98, k99, k100, k112, k128, k200, k255, k256, k378, k420, k999, k1000000, jN_add, jN_mul, jN_clamp, jN_inbT, Bool.false_eq_true, Bool.true_eq_false, jN_le]
      rw [if_pos (by omega)]
    · right
      refine ⟨by omega, (zk_row y 8 (upd r k (jN 0)), jN (k + 1)), ?_, rfl, _, rfl, fun i hi => ?_⟩
      · simp (disch := omega) only [zk_let, Option.bind_some, cond_true, cond_false, if_true, if_false, zbF, zbT, within_in, jn9, k0, k1, k2, k3, k4, k5, k6, k7, k8, k9, k10, k12, k16, k17, k20, k29, k30, k31, k32, k36, k40, k41, k42, k48, k57, k59, k60, k64, k98, k99, k100, k112, k128, k200, k255, k256, k378, k420, k999, k1000000, jN_add, jN_mul, jN_clamp, jN_inbT, Bool.false_eq_true, Bool.true_eq_false, jN_le, zk_u_row, zk_row_row, zk_row_on]
        rw [if_neg (by omega)]
      · by_cases c2 : i = k
        · rw [c2, upd_same]
        · rw [upd_ne c2]; exact hr i (by omega)) 500 (y, 0) ⟨k0, y.1 8, zk_row_self.symm, fun i h => by omega⟩ (by omega)
  exact ⟨r, by rw [← h2]; exact h1, h3⟩
theorem fBurden_emptyP_L2_z {y : zkM} : ∃ r, fBurden_emptyP_L2 500 y 0 = some (zk_row y 32 r) ∧ ∀ i, i < 6 → r i = jN 0 := by
  obtain ⟨q, h1, r, h2, h3⟩ := zl_loop (fun n (s : zkM × Int32) => fBurden_emptyP_L2 n s.1 s.2) (fun k s => s.2 = jN k ∧ ∃ r, s.1 = zk_row y 32 r ∧ ∀ i, i < k → r i = jN 0) 6 (fun q => ∃ r, q = zk_row y 32 r ∧ ∀ i, i < 6 → r i = jN 0) (by
    rintro n k ⟨m, x⟩ hk ⟨e1, r, e2, hr⟩
    dsimp only at e1 e2
    subst e1; subst e2
    simp only [fBurden_emptyP_L2]
    by_cases c : k = 6
    · left
      refine ⟨_, ?_, r, rfl, fun i hi => hr i (by omega)⟩
      simp (disch := omega) only [zk_let, Option.bind_some, cond_true, cond_false, if_true, if_false, zbF, zbT, within_in, jn9, k0, k1, k2, k3, k4, k5, k6, k7, k8, k9, k10, k12, k16, k17, k20, k29, k30, k31, k32, k36, k40, k41, k42, k48, k57, k59, k60, k64, k98, k99, k100, k112, k128, k200, k255, k256, k378, k420, k999, k1000000, jN_add, jN_mul, jN_clamp, jN_inbT, Bool.false_eq_true, Bool.true_eq_false, jN_le]
      rw [if_pos (by omega)]
    · right
      refine ⟨by omega, (zk_row y 32 (upd r k (jN 0)), jN (k + 1)), ?_, rfl, _, rfl, fun i hi => ?_⟩
      · simp (disch := omega) only [zk_let, Option.bind_some, cond_true, cond_false, if_true, if_false, zbF, zbT, within_in, jn9, k0, k1, k2, k3, k4, k5, k6, k7, k8, k9, k10, k12, k16, k17, k20, k29, k30, k31, k32, k36, k40, k41, k42, k48, k57, k59, k60, k64, k98, k99, k100, k112, k128, k200, k255, k256, k378, k420, k999, k1000000, jN_add, jN_mul, jN_clamp, jN_inbT, Bool.false_eq_true, Bool.true_eq_false, jN_le, zk_u_row, zk_row_row, zk_row_on]
        rw [if_neg (by omega)]
      · by_cases c2 : i = k
        · rw [c2, upd_same]
        · rw [upd_ne c2]; exact hr i (by omega)) 500 (y, 0) ⟨k0, y.1 32, zk_row_self.symm, fun i h => by omega⟩ (by omega)
  exact ⟨r, by rw [← h2]; exact h1, h3⟩
theorem fBurden_emptyP_L23_z {y : zkM} : ∃ r, fBurden_emptyP_L23 500 y 0 = some (zk_row y 33 r) ∧ ∀ i, i < 8 → r i = jN 0 := by
  obtain ⟨q, h1, r, h2, h3⟩ := zl_loop (fun n (s : zkM × Int32) => fBurden_emptyP_L23 n s.1 s.2) (fun k s => s.2 = jN k ∧ ∃ r, s.1 = zk_row y 33 r ∧ ∀ i, i < k → r i = jN 0) 8 (fun q => ∃ r, q = zk_row y 33 r ∧ ∀ i, i < 8 → r i = jN 0) (by
    rintro n k ⟨m, x⟩ hk ⟨e1, r, e2, hr⟩
    dsimp only at e1 e2
    subst e1; subst e2
    simp only [fBurden_emptyP_L23]
    by_cases c : k = 8
    · left
      refine ⟨_, ?_, r, rfl, fun i hi => hr i (by omega)⟩
      simp (disch := omega) only [zk_let, Option.bind_some, cond_true, cond_false, if_true, if_false, zbF, zbT, within_in, jn9, k0, k1, k2, k3, k4, k5, k6, k7, k8, k9, k10, k12, k16, k17, k20, k29, k30, k31, k32, k36, k40, k41, k42, k48, k57, k59, k60, k64, k98, k99, k100, k112, k128, k200, k255, k256, k378, k420, k999, k1000000, jN_add, jN_mul, jN_clamp, jN_inbT, Bool.false_eq_true, Bool.true_eq_false, jN_le]
      rw [if_pos (by omega)]
    · right
      refine ⟨by omega, (zk_row y 33 (upd r k (jN 0)), jN (k + 1)), ?_, rfl, _, rfl, fun i hi => ?_⟩
      · simp (disch := omega) only [zk_let, Option.bind_some, cond_true, cond_false, if_true, if_false, zbF, zbT, within_in, jn9, k0, k1, k2, k3, k4, k5, k6, k7, k8, k9, k10, k12, k16, k17, k20, k29, k30, k31, k32, k36, k40, k41, k42, k48, k57, k59, k60, k64, k98, k99, k100, k112, k128, k200, k255, k256, k378, k420, k999, k1000000, jN_add, jN_mul, jN_clamp, jN_inbT, Bool.false_eq_true, Bool.true_eq_false, jN_le, zk_u_row, zk_row_row, zk_row_on]
        rw [if_neg (by omega)]
      · by_cases c2 : i = k
        · rw [c2, upd_same]
        · rw [upd_ne c2]; exact hr i (by omega)) 500 (y, 0) ⟨k0, y.1 33, zk_row_self.symm, fun i h => by omega⟩ (by omega)
  exact ⟨r, by rw [← h2]; exact h1, h3⟩
theorem fMd_layLoads_L2_z {y : zkM} : ∃ r, fMd_layLoads_L2 500 y 0 = some (zk_row y 14 r) ∧ ∀ i, i < 6 → r i = jN 0 := by
  obtain ⟨q, h1, r, h2, h3⟩ := zl_loop (fun n (s : zkM × Int32) => fMd_layLoads_L2 n s.1 s.2) (fun k s => s.2 = jN k ∧ ∃ r, s.1 = zk_row y 14 r ∧ ∀ i, i < k → r i = jN 0) 6 (fun q => ∃ r, q = zk_row y 14 r ∧ ∀ i, i < 6 → r i = jN 0) (by
    rintro n k ⟨m, x⟩ hk ⟨e1, r, e2, hr⟩
    dsimp only at e1 e2
    subst e1; subst e2
    simp only [fMd_layLoads_L2]
    by_cases c : k = 6
    · left
      refine ⟨_, ?_, r, rfl, fun i hi => hr i (by omega)⟩
      simp (disch := omega) only [zk_let, Option.bind_some, cond_true, cond_false, if_true, if_false, zbF, zbT, within_in, jn9, k0, k1, k2, k3, k4, k5, k6, k7, k8, k9, k10, k12, k16, k17, k20, k29, k30, k31, k32, k36, k40, k41, k42, k48, k57, k59, k60, k64, k98, k99, k100, k112, k128, k200, k255, k256, k378, k420, k999, k1000000, jN_add, jN_mul, jN_clamp, jN_inbT, Bool.false_eq_true, Bool.true_eq_false, jN_le]
      rw [if_pos (by omega)]
    · right
      refine ⟨by omega, (zk_row y 14 (upd r k (jN 0)), jN (k + 1)), ?_, rfl, _, rfl, fun i hi => ?_⟩
      · simp (disch := omega) only [zk_let, Option.bind_some, cond_true, cond_false, if_true, if_false, zbF, zbT, within_in, jn9, k0, k1, k2, k3, k4, k5, k6, k7, k8, k9, k10, k12, k16, k17, k20, k29, k30, k31, k32, k36, k40, k41, k42, k48, k57, k59, k60, k64, k98, k99, k100, k112, k128, k200, k255, k256, k378, k420, k999, k1000000, jN_add, jN_mul, jN_clamp, jN_inbT, Bool.false_eq_true, Bool.true_eq_false, jN_le, zk_u_row, zk_row_row, zk_row_on]
        rw [if_neg (by omega)]
      · by_cases c2 : i = k
        · rw [c2, upd_same]
        · rw [upd_ne c2]; exact hr i (by omega)) 500 (y, 0) ⟨k0, y.1 14, zk_row_self.symm, fun i h => by omega⟩ (by omega)
  exact ⟨r, by rw [← h2]; exact h1, h3⟩
theorem fMd_layLoads_L23_z {y : zkM} : ∃ r, fMd_layLoads_L23 500 y 0 = some (zk_row y 15 r) ∧ ∀ i, i < 8 → r i = jN 0 := by
  obtain ⟨q, h1, r, h2, h3⟩ := zl_loop (fun n (s : zkM × Int32) => fMd_layLoads_L23 n s.1 s.2) (fun k s => s.2 = jN k ∧ ∃ r, s.1 = zk_row y 15 r ∧ ∀ i, i < k → r i = jN 0) 8 (fun q => ∃ r, q = zk_row y 15 r ∧ ∀ i, i < 8 → r i = jN 0) (by
    rintro n k ⟨m, x⟩ hk ⟨e1, r, e2, hr⟩
    dsimp only at e1 e2
    subst e1; subst e2
    simp only [fMd_layLoads_L23]
    by_cases c : k = 8
    · left
      refine ⟨_, ?_, r, rfl, fun i hi => hr i (by omega)⟩
      simp (disch := omega) only [zk_let, Option.bind_some, cond_true, cond_false, if_true, if_false, zbF, zbT, within_in, jn9, k0, k1, k2, k3, k4, k5, k6, k7, k8, k9, k10, k12, k16, k17, k20, k29, k30, k31, k32, k36, k40, k41, k42, k48, k57, k59, k60, k64, k98, k99, k100, k112, k128, k200, k255, k256, k378, k420, k999, k1000000, jN_add, jN_mul, jN_clamp, jN_inbT, Bool.false_eq_true, Bool.true_eq_false, jN_le]
      rw [if_pos (by omega)]
    · right
      refine ⟨by omega, (zk_row y 15 (upd r k (jN 0)), jN (k + 1)), ?_, rfl, _, rfl, fun i hi => ?_⟩
      · simp (disch := omega) only [zk_let, Option.bind_some, cond_true, cond_false, if_true, if_false, zbF, zbT, within_in, jn9, k0, k1, k2, k3, k4, k5, k6, k7, k8, k9, k10, k12, k16, k17, k20, k29, k30, k31, k32, k36, k40, k41, k42, k48, k57, k59, k60, k64, k98, k99, k100, k112, k128, k200, k255, k256, k378, k420, k999, k1000000, jN_add, jN_mul, jN_clamp, jN_inbT, Bool.false_eq_true, Bool.true_eq_false, jN_le, zk_u_row, zk_row_row, zk_row_on]
        rw [if_neg (by omega)]
      · by_cases c2 : i = k
        · rw [c2, upd_same]
        · rw [upd_ne c2]; exact hr i (by omega)) 500 (y, 0) ⟨k0, y.1 15, zk_row_self.symm, fun i h => by omega⟩ (by omega)
  exact ⟨r, by rw [← h2]; exact h1, h3⟩
theorem empty_spec {T : Nat → Nat → Nat} {y : zkM} (hT : zTb T) : ∃ r7 r8, fBurden_empty y = some (zk_row (zk_row y 7 r7) 8 r8) ∧ zLd T (fun _ => 0) r7 r8 := by
  obtain ⟨r7, e7, h7⟩ := fBurden_empty_L2_z (y := y)
  obtain ⟨r8, e8, h8⟩ := fBurden_empty_L23_z (y := zk_row y 7 r7)
  have t1 := hT.1
  have t2 := hT.2.1
  refine ⟨r7, r8, ?_, fun p hp => h7 p (by omega), fun b hb => ?_⟩
  · unfold fBurden_empty; simp only [e7, e8, Option.bind_some]
  · rw [be_0 (fun _ => rfl)]; exact h8 b (by omega)
theorem emptyP_spec {T : Nat → Nat → Nat} {y : zkM} (hT : zTb T) : ∃ r7 r8, fBurden_emptyP y = some (zk_row (zk_row y 32 r7) 33 r8) ∧ zLd T (fun _ => 0) r7 r8 := by
  obtain ⟨r7, e7, h7⟩ := fBurden_emptyP_L2_z (y := y)
  obtain ⟨r8, e8, h8⟩ := fBurden_emptyP_L23_z (y := zk_row y 32 r7)
  have t1 := hT.1
  have t2 := hT.2.1
  refine ⟨r7, r8, ?_, fun p hp => h7 p (by omega), fun b hb => ?_⟩
  · unfold fBurden_emptyP; simp only [e7, e8, Option.bind_some]
  · rw [be_0 (fun _ => rfl)]; exact h8 b (by omega)
theorem ld_in {T : Nat → Nat → Nat} {u : Nat → Nat} {k : Nat} (h : u k < T 0 1) : setL (ld T u k) (u k) (ld T u k (u k) + T 7 k) = ld T u (k + 1) := by
  funext q
  simp only [setL, ld]
  by_cases c : q = u k
  · subst c; simp [h]
  · have c' : ¬ u k = q := fun e => c e.symm
    simp [c, c']
theorem ld_out {T : Nat → Nat → Nat} {u : Nat → Nat} {k : Nat} (h : ¬ u k < T 0 1) : ld T u (k + 1) = ld T u k := by
  funext q
  simp only [ld]
  simp [h]
theorem weigh_spec {T : Nat → Nat → Nat} {u : Nat → Nat} {y : zkM} (hT : zTb T) (hx : zTx T y.1) (hu : ∀ c, c < T 0 2 → y.1 5 c = zOn T (u c)) : ∃ r7 r8, fBurden_weigh y = some (zk_row (zk_row y 7 r7) 8 r8) ∧ zLd T (ld T u (T 0 2)) r7 r8 := by
  obtain ⟨a0, b0, e0, h0⟩ := empty_spec (y := y) hT
  have t2 := hT.2.1
  have t3 := hT.2.2.1
  obtain ⟨q, h1, r7, r8, h2, h3⟩ := zl_loop (fun n (s : zkM × Int32) => fBurden_weigh_L6 n s.1 s.2) (fun k s => s.2 = jN k ∧ ∃ a b, s.1 = zk_row (zk_row y 7 a) 8 b ∧ zLd T (ld T u k) a b) (T 0 2) (fun q => ∃ a b, q = zk_row (zk_row y 7 a) 8 b ∧ zLd T (ld T u (T 0 2)) a b) (by
    rintro n k ⟨m, x⟩ hk ⟨e1, a, b, e2, hr⟩
    dsimp only at e1 e2
    subst e1
    have hxm : zTx T m.1 := by rw [e2]; exact hx.congr rfl rfl rfl rfl rfl rfl rfl rfl
    have hm5 : m.1 5 = y.1 5 := by rw [e2]; rfl
    have hLm : zLd T (ld T u k) (m.1 7) (m.1 8) := by rw [e2]; exact hr
    simp only [fBurden_weigh_L6, fScene_plankUnder, hm5, hxm.2.2.1, hxm.2.1]
    by_cases c : k = T 0 2
    · left
      refine ⟨m, ?_, a, b, e2, c ▸ hr⟩
      simp (disch := omega) only [zk_let, Option.bind_some, cond_true, cond_false, if_true, if_false, zbF, zbT, within_in, jn9, k0, k1, k2, k3, k4, k5, k6, k7, k8, k9, k10, k12, k16, k17, k20, k29, k30, k31, k32, k36, k40, k41, k42, k48, k57, k59, k60, k64, k98, k99, k100, k112, k128, k200, k255, k256, k378, k420, k999, k1000000, jN_add, jN_mul, jN_clamp, jN_inbT, Bool.false_eq_true, Bool.true_eq_false, jN_le]
      rw [if_pos (by omega)]
    · right
      have hk2 : k < T 0 2 := by omega
      refine ⟨hk2, ?_⟩
      have hin := zOn_in (T := T) (n := u k) t2
      simp (disch := omega) only [zk_let, Option.bind_some, cond_true, cond_false, if_true, if_false, zbF, zbT, within_in, jn9, k0, k1, k2, k3, k4, k5, k6, k7, k8, k9, k10, k12, k16, k17, k20, k29, k30, k31, k32, k36, k40, k41, k42, k48, k57, k59, k60, k64, k98, k99, k100, k112, k128, k200, k255, k256, k378, k420, k999, k1000000, jN_add, jN_mul, jN_clamp, jN_inbT, Bool.false_eq_true, Bool.true_eq_false, jN_le, hu k hk2, hin, (hxm.2.2.2.2.2 k hk2).1]
      rw [if_neg (by omega)]
      by_cases hp : u k < T 0 1
      · have hl := ld_le (u := u) hT hk (u k)
        have h9 := (hT.2.2.2.2.2 k hk2).2.1
        obtain ⟨a', b', e3, h4⟩ := add_spec (w := jN (T 7 k)) (m := ld T u k (u k) + T 7 k) hT hxm hLm hp (jN_add _ _) (by omega) (by omega)
        rw [ld_in hp] at h4
        refine ⟨(zk_row (zk_row y 7 a') 8 b', jN (k + 1)), ?_, rfl, a', b', rfl, h4⟩
        simp only [hp, decide_true, Bool.true_eq_false, if_false, show zOn T (u k) = jN (u k) from if_pos hp, e3, Option.bind_some]
        rw [e2, zk_row_abab]
      · refine ⟨(m, jN (k + 1)), ?_, rfl, a, b, e2, by rw [ld_out hp]; exact hr⟩
        simp only [hp, decide_false, if_true, Option.bind_some]) 500 (zk_row (zk_row y 7 a0) 8 b0, 0) ⟨k0, a0, b0, rfl, h0⟩ (by omega)
  refine ⟨r7, r8, ?_, h3⟩
  unfold fBurden_weigh
  dsimp only at h1
  rw [e0, Option.bind_some, h1, h2]
  rfl
theorem layNow_spec {z : zkM} : ∃ r, fMd_layNow z = some (zk_row z 13 r) ∧ ∀ i, i < 5 → r i = z.1 4 (1 + i) := by
  obtain ⟨q, h1, r, h2, h3⟩ := zl_loop (fun n (s : zkM × Int32) => fMd_layNow_L2 n s.1 s.2) (fun k s => s.2 = jN k ∧ ∃ r, s.1 = zk_row z 13 r ∧ ∀ i, i < k → r i = z.1 4 (1 + i)) 5 (fun q => ∃ r, q = zk_row z 13 r ∧ ∀ i, i < 5 → r i = z.1 4 (1 + i)) (by
    rintro n k ⟨m, x⟩ hk ⟨e1, r, e2, hr⟩
    dsimp only at e1 e2
    subst e1; subst e2
    simp only [fMd_layNow_L2]
    by_cases c : k = 5
    · left
      refine ⟨_, ?_, r, rfl, fun i hi => hr i (by omega)⟩
      simp (disch := omega) only [zk_let, Option.bind_some, cond_true, cond_false, if_true, if_false, zbF, zbT, within_in, jn9, k0, k1, k2, k3, k4, k5, k6, k7, k8, k9, k10, k12, k16, k17, k20, k29, k30, k31, k32, k36, k40, k41, k42, k48, k57, k59, k60, k64, k98, k99, k100, k112, k128, k200, k255, k256, k378, k420, k999, k1000000, jN_add, jN_mul, jN_clamp, jN_inbT, Bool.false_eq_true, Bool.true_eq_false, jN_le]
      rw [if_pos (by omega)]
    · right
      refine ⟨by omega, (zk_row z 13 (upd r k (z.1 4 (1 + k))), jN (k + 1)), ?_, rfl, _, rfl, fun i hi => ?_⟩
      · simp (disch := omega) only [zk_let, Option.bind_some, cond_true, cond_false, if_true, if_false, zbF, zbT, within_in, jn9, k0, k1, k2, k3, k4, k5, k6, k7, k8, k9, k10, k12, k16, k17, k20, k29, k30, k31, k32, k36, k40, k41, k42, k48, k57, k59, k60, k64, k98, k99, k100, k112, k128, k200, k255, k256, k378, k420, k999, k1000000, jN_add, jN_mul, jN_clamp, jN_inbT, Bool.false_eq_true, Bool.true_eq_false, jN_le, zk_u_row, zk_row_row, zk_row_on, zk_row_off (show (4 : Nat) ≠ 13 by omega)]
        rw [if_neg (by omega)]
      · by_cases c2 : i = k
        · rw [c2, upd_same]
        · rw [upd_ne c2]; exact hr i (by omega)) 500 (z, 0) ⟨k0, z.1 13, zk_row_self.symm, fun i h => by omega⟩ (by omega)
  exact ⟨r, by unfold fMd_layNow; dsimp only at h1; rw [h1, h2]; rfl, h3⟩
theorem layEnds_spec {z : zkM} : ∃ r, fMd_layEnds z = some (zk_row z 16 r) ∧ ∀ i, i < 36 → r i = z.1 4 (6 + i) := by
  obtain ⟨q, h1, r, h2, h3⟩ := zl_loop (fun n (s : zkM × Int32) => fMd_layEnds_L2 n s.1 s.2) (fun k s => s.2 = jN k ∧ ∃ r, s.1 = zk_row z 16 r ∧ ∀ i, i < k → r i = z.1 4 (6 + i)) 36 (fun q => ∃ r, q = zk_row z 16 r ∧ ∀ i, i < 36 → r i = z.1 4 (6 + i)) (by
    rintro n k ⟨m, x⟩ hk ⟨e1, r, e2, hr⟩
    dsimp only at e1 e2
    subst e1; subst e2
    simp only [fMd_layEnds_L2]
    by_cases c : k = 36
    · left
      refine ⟨_, ?_, r, rfl, fun i hi => hr i (by omega)⟩
      simp (disch := omega) only [zk_let, Option.bind_some, cond_true, cond_false, if_true, if_false, zbF, zbT, within_in, jn9, k0, k1, k2, k3, k4, k5, k6, k7, k8, k9, k10, k12, k16, k17, k20, k29, k30, k31, k32, k36, k40, k41, k42, k48, k57, k59, k60, k64, k98, k99, k100, k112, k128, k200, k255, k256, k378, k420, k999, k1000000, jN_add, jN_mul, jN_clamp, jN_inbT, Bool.false_eq_true, Bool.true_eq_false, jN_le]
      rw [if_pos (by omega)]
    · right
      refine ⟨by omega, (zk_row z 16 (upd r k (z.1 4 (6 + k))), jN (k + 1)), ?_, rfl, _, rfl, fun i hi => ?_⟩
      · simp (disch := omega) only [zk_let, Option.bind_some, cond_true, cond_false, if_true, if_false, zbF, zbT, within_in, jn9, k0, k1, k2, k3, k4, k5, k6, k7, k8, k9, k10, k12, k16, k17, k20, k29, k30, k31, k32, k36, k40, k41, k42, k48, k57, k59, k60, k64, k98, k99, k100, k112, k128, k200, k255, k256, k378, k420, k999, k1000000, jN_add, jN_mul, jN_clamp, jN_inbT, Bool.false_eq_true, Bool.true_eq_false, jN_le, zk_u_row, zk_row_row, zk_row_on, zk_row_off (show (4 : Nat) ≠ 16 by omega)]
        rw [if_neg (by omega)]
      · by_cases c2 : i = k
        · rw [c2, upd_same]
        · rw [upd_ne c2]; exact hr i (by omega)) 500 (z, 0) ⟨k0, z.1 16, zk_row_self.symm, fun i h => by omega⟩ (by omega)
  exact ⟨r, by unfold fMd_layEnds; dsimp only at h1; rw [h1, h2]; rfl, h3⟩
theorem layLoads_44 {T : Nat → Nat → Nat} {u : Nat → Nat} {z : zkM} (hT : zTb T) (hm : zTm T z.1) (hu : ∀ c, c < T 0 2 → z.1 13 c = zOn T (u c)) (h0 : ∀ p, p < T 0 1 → z.1 14 p = jN 0) : ∃ r, fMd_layLoads_L44 500 z 0 = some (zk_row z 14 r) ∧ ∀ p, p < T 0 1 → r p = jN (ld T u (T 0 2) p) := by
  have t2 := hT.2.1
  have t3 := hT.2.2.1
  obtain ⟨q, h1, r, h2, h3⟩ := zl_loop (fun n (s : zkM × Int32) => fMd_layLoads_L44 n s.1 s.2) (fun k s => s.2 = jN k ∧ ∃ r, s.1 = zk_row z 14 r ∧ ∀ p, p < T 0 1 → r p = jN (ld T u k p)) (T 0 2) (fun q => ∃ r, q = zk_row z 14 r ∧ ∀ p, p < T 0 1 → r p = jN (ld T u (T 0 2) p)) (by
    rintro n k ⟨m, x⟩ hk ⟨e1, r, e2, hr⟩
    dsimp only at e1 e2
    subst e1
    have hmm : zTm T m.1 := by rw [e2]; exact hm.congr rfl rfl rfl rfl rfl rfl
    have hm13 : m.1 13 = z.1 13 := by rw [e2]; rfl
    have hm14 : m.1 14 = r := by rw [e2]; rfl
    simp only [fMd_layLoads_L44, hm13, hmm.2.2.1]
    by_cases c : k = T 0 2
    · left
      refine ⟨m, ?_, r, e2, c ▸ hr⟩
      simp (disch := omega) only [zk_let, Option.bind_some, cond_true, cond_false, if_true, if_false, zbF, zbT, within_in, jn9, k0, k1, k2, k3, k4, k5, k6, k7, k8, k9, k10, k12, k16, k17, k20, k29, k30, k31, k32, k36, k40, k41, k42, k48, k57, k59, k60, k64, k98, k99, k100, k112, k128, k200, k255, k256, k378, k420, k999, k1000000, jN_add, jN_mul, jN_clamp, jN_inbT, Bool.false_eq_true, Bool.true_eq_false, jN_le]
      rw [if_pos (by omega)]
    · right
      have hk2 : k < T 0 2 := by omega
      refine ⟨hk2, ?_⟩
      simp (disch := omega) only [zk_let, Option.bind_some, cond_true, cond_false, if_true, if_false, zbF, zbT, within_in, jn9, k0, k1, k2, k3, k4, k5, k6, k7, k8, k9, k10, k12, k16, k17, k20, k29, k30, k31, k32, k36, k40, k41, k42, k48, k57, k59, k60, k64, k98, k99, k100, k112, k128, k200, k255, k256, k378, k420, k999, k1000000, jN_add, jN_mul, jN_clamp, jN_inbT, Bool.false_eq_true, Bool.true_eq_false, jN_le, hu k hk2, (hmm.2.2.2.2.2 k hk2).1, hm14]
      rw [if_neg (by omega)]
      by_cases hp : u k < T 0 1
      · refine ⟨(zk_row z 14 (upd r (u k) (jN (ld T u k (u k) + T 7 k))), jN (k + 1)), ?_, rfl, _, rfl, fun p hp' => ?_⟩
        · rw [show zOn T (u k) = jN (u k) from if_pos hp, if_neg (jN_no (by omega))]
          simp (disch := omega) only [zk_let, Option.bind_some, cond_true, cond_false, if_true, if_false, zbF, zbT, within_in, jn9, k0, k1, k2, k3, k4, k5, k6, k7, k8, k9, k10, k12, k16, k17, k20, k29, k30, k31, k32, k36, k40, k41, k42, k48, k57, k59, k60, k64, k98, k99, k100, k112, k128, k200, k255, k256, k378, k420, k999, k1000000, jN_add, jN_mul, jN_clamp, jN_inbT, Bool.false_eq_true, Bool.true_eq_false, hr _ hp, zk_u_row, hm14]
          rw [e2, zk_row_row]
        · rw [← ld_in hp]
          by_cases c2 : p = u k
          · rw [c2, upd_same]; simp [setL]
          · rw [upd_ne c2]; simp only [setL, c2, if_false]; exact hr p hp'
      · refine ⟨(m, jN (k + 1)), ?_, rfl, r, e2, by rw [ld_out hp]; exact hr⟩
        rw [show zOn T (u k) = jNo from if_neg hp, if_pos rfl]
        simp only [Option.bind_some]) 500 (z, 0) ⟨k0, z.1 14, zk_row_self.symm, h0⟩ (by omega)
  exact ⟨r, by rw [← h2]; exact h1, h3⟩
theorem layLoads_93 {T : Nat → Nat → Nat} {L : Nat → Nat} {z : zkM} (hT : zTb T) (hm : zTm T z.1) (hL : ∀ p, p < T 0 1 → z.1 14 p = jN (L p) ∧ L p < 1000) (h0 : ∀ b, b < T 0 0 → z.1 15 b = jN 0) : ∃ r, fMd_layLoads_L93 500 z 0 = some (zk_row z 15 r) ∧ ∀ b, b < T 0 0 → r b = jN (be T L (T 0 1) b) := by
  obtain ⟨t1, t2, t3, t4, t5, t6⟩ := id hT
  obtain ⟨q, h1, r, h2, h3⟩ := zl_loop (fun n (s : zkM × Int32) => fMd_layLoads_L93 n s.1 s.2) (fun k s => s.2 = jN k ∧ ∃ r, s.1 = zk_row z 15 r ∧ ∀ b, b < T 0 0 → r b = jN (be T L k b)) (T 0 1) (fun q => ∃ r, q = zk_row z 15 r ∧ ∀ b, b < T 0 0 → r b = jN (be T L (T 0 1) b)) (by
    rintro n k ⟨m, x⟩ hk ⟨e1, r, e2, hr⟩
    dsimp only at e1 e2
    subst e1
    have hmm : zTm T m.1 := by rw [e2]; exact hm.congr rfl rfl rfl rfl rfl rfl
    have hm14 : m.1 14 = z.1 14 := by rw [e2]; rfl
    have hm15 : m.1 15 = r := by rw [e2]; rfl
    simp only [fMd_layLoads_L93, hmm.2.1]
    by_cases c : k = T 0 1
    · left
      refine ⟨m, ?_, r, e2, c ▸ hr⟩
      simp (disch := omega) only [zk_let, Option.bind_some, cond_true, cond_false, if_true, if_false, zbF, zbT, within_in, jn9, k0, k1, k2, k3, k4, k5, k6, k7, k8, k9, k10, k12, k16, k17, k20, k29, k30, k31, k32, k36, k40, k41, k42, k48, k57, k59, k60, k64, k98, k99, k100, k112, k128, k200, k255, k256, k378, k420, k999, k1000000, jN_add, jN_mul, jN_clamp, jN_inbT, Bool.false_eq_true, Bool.true_eq_false, jN_le]
      rw [if_pos (by omega)]
    · right
      have hk2 : k < T 0 1 := by omega
      refine ⟨hk2, ?_⟩
      obtain ⟨f4, f5, -⟩ := hmm.2.2.2.2.1 k hk2
      obtain ⟨b4, b5, -⟩ := t5 k hk2
      obtain ⟨l1, l2⟩ := hL k hk2
      have o2 : ∀ (s : Nat → Int32), (zk_row m 15 s).1 2 = m.1 2 := fun s => zk_row_off (by omega)
      have o14 : ∀ (s : Nat → Int32), (zk_row m 15 s).1 14 = m.1 14 := fun s => zk_row_off (by omega)
      refine ⟨(zk_row z 15 (upd (upd r (T 4 k) (r (T 4 k) + jN ((L k + 1) / 2))) (T 5 k) (upd r (T 4 k) (r (T 4 k) + jN ((L k + 1) / 2)) (T 5 k) + jN (L k / 2))), jN (k + 1)), ?_, rfl, _, rfl, fun x hx => ?_⟩
      · simp (disch := omega) only [zk_let, Option.bind_some, cond_true, cond_false, if_true, if_false, zbF, zbT, within_in, jn9, k0, k1, k2, k3, k4, k5, k6, k7, k8, k9, k10, k12, k16, k17, k20, k29, k30, k31, k32, k36, k40, k41, k42, k48, k57, k59, k60, k64, k98, k99, k100, k112, k128, k200, k255, k256, k378, k420, k999, k1000000, jN_add, jN_mul, jN_clamp, jN_inbT, Bool.false_eq_true, Bool.true_eq_false, jN_le, f4, f5, hm14, hm15, l1, jN_div, zk_u_row, zk_row_row, zk_row_on, o2, o14]
        rw [if_neg (by omega), e2, zk_row_row]
      · simp only [be]
        have hr' := hr x hx
        by_cases c5 : T 5 k = x
        · by_cases c4 : T 4 k = x
          · simp only [c4, c5, if_true, upd_same, hr', jN_add]
          · have c4' : x ≠ T 4 k := fun e => c4 e.symm
            simp only [c4, c5, if_true, if_false, upd_same, upd_ne c4', hr', jN_add, Nat.add_zero]
        · have c5' : x ≠ T 5 k := fun e => c5 e.symm
          by_cases c4 : T 4 k = x
          · simp only [c4, c5, if_true, if_false, upd_same, upd_ne c5', hr', jN_add, Nat.add_zero]
          · have c4' : x ≠ T 4 k := fun e => c4 e.symm
            simp only [c4, c5, if_false, upd_ne c4', upd_ne c5', hr', Nat.add_zero]) 500 (z, 0) ⟨k0, z.1 15, zk_row_self.symm, h0⟩ (by omega)
  exact ⟨r, by rw [← h2]; exact h1, h3⟩
theorem layLoads_spec {T : Nat → Nat → Nat} {u : Nat → Nat} {z : zkM} (hT : zTb T) (hm : zTm T z.1) (hu : ∀ c, c < T 0 2 → z.1 13 c = zOn T (u c)) : ∃ a b, fMd_layLoads z = some (zk_row (zk_row z 14 a) 15 b) ∧ zLd T (ld T u (T 0 2)) a b := by
  obtain ⟨t1, t2, t3, -⟩ := id hT
  obtain ⟨a0, e1, h1⟩ := fMd_layLoads_L2_z (y := z)
  obtain ⟨b0, e2, h2⟩ := fMd_layLoads_L23_z (y := zk_row z 14 a0)
  obtain ⟨a, e3, h3⟩ := layLoads_44 (u := u) (z := zk_row (zk_row z 14 a0) 15 b0) hT (hm.congr rfl rfl rfl rfl rfl rfl) hu (fun p hp => h1 p (by omega))
  have e4 : zk_row (zk_row (zk_row z 14 a0) 15 b0) 14 a = zk_row (zk_row z 15 b0) 14 a := zk_row_aba
  rw [e4] at e3
  obtain ⟨b, e5, h5⟩ := layLoads_93 (L := ld T u (T 0 2)) (z := zk_row (zk_row z 15 b0) 14 a) hT (hm.congr rfl rfl rfl rfl rfl rfl) (fun p hp => ⟨by rw [zk_row_on]; exact h3 p hp, by have := ld_le (u := u) hT (Nat.le_refl _) p; omega⟩) (fun b hb => h2 b (by omega))
  rw [zk_row_aba] at e5
  refine ⟨a, b, ?_, h3, h5⟩
  unfold fMd_layLoads
  simp only [e1, e2, e3, e5, Option.bind_some]
