/-! bolts -/
theorem tellX {T R : Nat → Nat → Nat} {y : zkM} {r : Nat → Int32} {g n : Nat} (hT : zTb T) (hS : zEb T R) (hx : zTx T y.1) (sx : zSx T R r) (hg : g ≤ 9) (hn : n ≤ 30) : ∃ r', fForecast_blowAndTell (zk_row y 40 r) (jN g) (jN n) = some (jN (bs (oB (blN T R g n)) (2 * T 0 1)), zk_row y 40 r') := by
  obtain ⟨q, h1, r', h2, h3⟩ := zl_loop (fun m (s : zkM × Int32) => fForecast_blowAndTell_L3 m s.1 (jN g) (jN n) s.2) (fun k s => s.2 = jN k ∧ ∃ r, s.1 = zk_row y 40 r ∧ zSx T (blN T R g k) r) n (fun q => ∃ r, q = zk_row y 40 r ∧ zSx T (blN T R g n) r) (by
    rintro m k ⟨s, x⟩ hk ⟨e1, r, e2, hr⟩
    dsimp only at e1 e2
    subst e1; subst e2
    simp only [fForecast_blowAndTell_L3]
    by_cases c : k = n
    · left
      refine ⟨_, ?_, r, rfl, c ▸ hr⟩
      simp (disch := omega) only [zk_let, Option.bind_some, cond_true, cond_false, if_true, if_false, zbF, zbT, within_in, jn9, k0, k1, k2, k3, k4, k5, k6, k7, k8, k9, k10, k12, k16, k17, k20, k29, k30, k31, k32, k36, k40, k41, k42, k48, k57, k59, k60, k64, k98, k99, k100, k112, k128, k200, k255, k256, k378, k420, k999, k1000000, jN_add, jN_mul, jN_clamp, jN_inbT, Bool.false_eq_true, Bool.true_eq_false, jN_le]
      rw [if_pos (by omega)]
    · right
      obtain ⟨r', e, hr'⟩ := blowL_row hT (hS.blN hT hg k) hx hr hg
      refine ⟨by omega, (zk_row y 40 r', jN (k + 1)), ?_, rfl, r', rfl, hr'⟩
      simp (disch := omega) only [zk_let, Option.bind_some, cond_true, cond_false, if_true, if_false, zbF, zbT, within_in, jn9, k0, k1, k2, k3, k4, k5, k6, k7, k8, k9, k10, k12, k16, k17, k20, k29, k30, k31, k32, k36, k40, k41, k42, k48, k57, k59, k60, k64, k98, k99, k100, k112, k128, k200, k255, k256, k378, k420, k999, k1000000, jN_add, jN_mul, jN_clamp, jN_inbT, Bool.false_eq_true, Bool.true_eq_false, jN_le, e]
      rw [if_neg (by omega)]) 500 (zk_row y 40 r, jN 0) ⟨rfl, r, rfl, sx⟩ (by omega)
  subst h2
  refine ⟨r', ?_⟩
  unfold fForecast_blowAndTell
  dsimp only at h1
  rw [k0, h1]
  simp only [Option.bind_some, bitsL hT (hS.blN hT hg n) hx h3]
theorem bolts35_spec {T R : Nat → Nat → Nat} {z : zkM} {r : Nat → Int32} {g n : Nat} (hT : zTb T) (hS : zEb T R) (hm : zTm T z.1) (sm : zEm T R 0 r) (hg : g ≤ 9) (hn : n ≤ 30) : ∃ r', fMd_bolts_L35 500 (zk_row z 16 r) (jN g) (jN n) (jN 0) = some (zk_row z 16 r') ∧ zEm T (blN T R g n) 0 r' := by
  obtain ⟨q, h1, r', h2, h3⟩ := zl_loop (fun m (s : zkM × Int32) => fMd_bolts_L35 m s.1 (jN g) (jN n) s.2) (fun k s => s.2 = jN k ∧ ∃ r, s.1 = zk_row z 16 r ∧ zEm T (blN T R g k) 0 r) n (fun q => ∃ r, q = zk_row z 16 r ∧ zEm T (blN T R g n) 0 r) (by
    rintro m k ⟨s, x⟩ hk ⟨e1, r, e2, hr⟩
    dsimp only at e1 e2
    subst e1; subst e2
    simp only [fMd_bolts_L35]
    by_cases c : k = n
    · left
      refine ⟨_, ?_, r, rfl, c ▸ hr⟩
      simp (disch := omega) only [zk_let, Option.bind_some, cond_true, cond_false, if_true, if_false, zbF, zbT, within_in, jn9, k0, k1, k2, k3, k4, k5, k6, k7, k8, k9, k10, k12, k16, k17, k20, k29, k30, k31, k32, k36, k40, k41, k42, k48, k57, k59, k60, k64, k98, k99, k100, k112, k128, k200, k255, k256, k378, k420, k999, k1000000, jN_add, jN_mul, jN_clamp, jN_inbT, Bool.false_eq_true, Bool.true_eq_false, jN_le]
      rw [if_pos (by omega)]
    · right
      obtain ⟨r', e, hr'⟩ := blows16_row hT (hS.blN hT hg k) hm hr hg
      refine ⟨by omega, (zk_row z 16 r', jN (k + 1)), ?_, rfl, r', rfl, hr'⟩
      simp (disch := omega) only [zk_let, Option.bind_some, cond_true, cond_false, if_true, if_false, zbF, zbT, within_in, jn9, k0, k1, k2, k3, k4, k5, k6, k7, k8, k9, k10, k12, k16, k17, k20, k29, k30, k31, k32, k36, k40, k41, k42, k48, k57, k59, k60, k64, k98, k99, k100, k112, k128, k200, k255, k256, k378, k420, k999, k1000000, jN_add, jN_mul, jN_clamp, jN_inbT, Bool.false_eq_true, Bool.true_eq_false, jN_le, e]
      rw [if_neg (by omega)]) 500 (zk_row z 16 r, jN 0) ⟨rfl, r, rfl, sm⟩ (by omega)
  subst h2
  exact ⟨r', h1, h3⟩
theorem bolts133_spec {T R : Nat → Nat → Nat} {z : zkM} {r : Nat → Int32} {g n : Nat} (hT : zTb T) (hS : zEb T R) (hm : zTm T z.1) (sm : zEm T R 0 r) (hg : g ≤ 9) (hn : n ≤ 30) : ∃ r', fMd_bolts_L133 500 (zk_row z 16 r) (jN g) (jN n) (jN 0) = some (zk_row z 16 r') ∧ zEm T (blN T R g n) 0 r' := by
  obtain ⟨q, h1, r', h2, h3⟩ := zl_loop (fun m (s : zkM × Int32) => fMd_bolts_L133 m s.1 (jN g) (jN n) s.2) (fun k s => s.2 = jN k ∧ ∃ r, s.1 = zk_row z 16 r ∧ zEm T (blN T R g k) 0 r) n (fun q => ∃ r, q = zk_row z 16 r ∧ zEm T (blN T R g n) 0 r) (by
    rintro m k ⟨s, x⟩ hk ⟨e1, r, e2, hr⟩
    dsimp only at e1 e2
    subst e1; subst e2
    simp only [fMd_bolts_L133]
    by_cases c : k = n
    · left
      refine ⟨_, ?_, r, rfl, c ▸ hr⟩
      simp (disch := omega) only [zk_let, Option.bind_some, cond_true, cond_false, if_true, if_false, zbF, zbT, within_in, jn9, k0, k1, k2, k3, k4, k5, k6, k7, k8, k9, k10, k12, k16, k17, k20, k29, k30, k31, k32, k36, k40, k41, k42, k48, k57, k59, k60, k64, k98, k99, k100, k112, k128, k200, k255, k256, k378, k420, k999, k1000000, jN_add, jN_mul, jN_clamp, jN_inbT, Bool.false_eq_true, Bool.true_eq_false, jN_le]
      rw [if_pos (by omega)]
    · right
      obtain ⟨r', e, hr'⟩ := blows16_row hT (hS.blN hT hg k) hm hr hg
      refine ⟨by omega, (zk_row z 16 r', jN (k + 1)), ?_, rfl, r', rfl, hr'⟩
      simp (disch := omega) only [zk_let, Option.bind_some, cond_true, cond_false, if_true, if_false, zbF, zbT, within_in, jn9, k0, k1, k2, k3, k4, k5, k6, k7, k8, k9, k10, k12, k16, k17, k20, k29, k30, k31, k32, k36, k40, k41, k42, k48, k57, k59, k60, k64, k98, k99, k100, k112, k128, k200, k255, k256, k378, k420, k999, k1000000, jN_add, jN_mul, jN_clamp, jN_inbT, Bool.false_eq_true, Bool.true_eq_false, jN_le, e]
      rw [if_neg (by omega)]) 500 (zk_row z 16 r, jN 0) ⟨rfl, r, rfl, sm⟩ (by omega)
  subst h2
  exact ⟨r', h1, h3⟩
/-- all ENDS bolted, as the class does it and as the model does it -/
def rbX (R : Nat → Nat → Nat) : Nat → Nat → Nat → Nat
  | 0 => R
  | k + 1 => setE (rbX R k) k 3 0 0
def rbM (R : Nat → Nat → Nat) : Nat → Nat → Nat → Nat
  | 0 => R
  | k + 1 => if R 2 k = 0 then setE (rbM R k) k 3 0 0 else rbM R k
theorem rbX_ge {R : Nat → Nat → Nat} {k a b : Nat} (h : k ≤ b) : rbX R k a b = R a b := by
  induction k with
  | zero => rfl
  | succ k ih => simp only [rbX]; rw [setE_ne (by omega), ih (by omega)]
theorem rbX_lt {R : Nat → Nat → Nat} {k b : Nat} (h : b < k) : rbX R k 0 b = 3 ∧ rbX R k 1 b = 0 ∧ rbX R k 2 b = 0 := by
  induction k with
  | zero => omega
  | succ k ih =>
    simp only [rbX]
    by_cases c : b = k
    · subst c; rw [setE_0, setE_1, setE_2]; exact ⟨rfl, rfl, rfl⟩
    · rw [setE_ne c, setE_ne c, setE_ne c]; exact ih (by omega)
theorem rbM_ge {R : Nat → Nat → Nat} {k a b : Nat} (h : k ≤ b) : rbM R k a b = R a b := by
  induction k with
  | zero => rfl
  | succ k ih =>
    simp only [rbM]
    split
    · rw [setE_ne (by omega), ih (by omega)]
    · exact ih (by omega)
theorem rbM_in {R : Nat → Nat → Nat} {k b : Nat} (h : b < k) (h0 : R 2 b = 0) : rbM R k 0 b = 3 ∧ rbM R k 1 b = 0 ∧ rbM R k 2 b = 0 := by
  induction k with
  | zero => omega
  | succ k ih =>
    simp only [rbM]
    by_cases c : b = k
    · subst c; rw [if_pos h0, setE_0, setE_1, setE_2]; exact ⟨rfl, rfl, rfl⟩
    · split
      · rw [setE_ne c, setE_ne c, setE_ne c]; exact ih (by omega)
      · exact ih (by omega)
theorem rbM_no {R : Nat → Nat → Nat} {k a b : Nat} (h0 : ¬ R 2 b = 0) : rbM R k a b = R a b := by
  induction k with
  | zero => rfl
  | succ k ih =>
    simp only [rbM]
    by_cases c : b = k
    · subst c; rw [if_neg h0]; exact ih
    · split
      · rw [setE_ne c]; exact ih
      · exact ih
theorem rbX_b {T R : Nat → Nat → Nat} : zEb T (rbX R (2 * T 0 1)) := by
  intro e he
  obtain ⟨h0, h1, h2⟩ := rbX_lt (R := R) he
  rw [h0, h1, h2]
  exact ⟨by omega, by omega, by omega, fun _ => zGv_pos 3⟩
theorem rbM_b {T R : Nat → Nat → Nat} (h : zEb T R) : zEb T (rbM R (2 * T 0 1)) := by
  intro e he
  by_cases c : R 2 e = 0
  · obtain ⟨h0, h1, h2⟩ := rbM_in (R := R) he c
    rw [h0, h1, h2]
    exact ⟨by omega, by omega, by omega, fun _ => zGv_pos 3⟩
  · rw [rbM_no c, rbM_no c, rbM_no c]; exact h e he
theorem boltX {T R : Nat → Nat → Nat} {y : zkM} {r : Nat → Int32} (hT : zTb T) (hx : zTx T y.1) (sx : zSx T R r) : ∃ r', fForecast_lostIfBolted_L14 500 (zk_row y 40 r) (jN 0) = some (zk_row y 40 r') ∧ zSx T (rbX R (2 * T 0 1)) r' := by
  have t2 := hT.2.1
  obtain ⟨q, h1, r', h2, h3⟩ := zl_loop (fun m (s : zkM × Int32) => fForecast_lostIfBolted_L14 m s.1 s.2) (fun k s => s.2 = jN k ∧ ∃ r, s.1 = zk_row y 40 r ∧ zSx T (rbX R k) r) (2 * T 0 1) (fun q => ∃ r, q = zk_row y 40 r ∧ zSx T (rbX R (2 * T 0 1)) r) (by
    rintro m k ⟨s, x⟩ hk ⟨e1, r, e2, hr⟩
    dsimp only at e1 e2
    subst e1; subst e2
    have hP : (zk_row y 40 r).1 46 1 = jN (T 0 1) := by rw [zk_row_off (by omega)]; exact hx.2.1
    simp only [fForecast_lostIfBolted_L14, fTree_ends, fScene_doAnewL, hP]
    by_cases c : k = 2 * T 0 1
    · left
      refine ⟨_, ?_, r, rfl, c ▸ hr⟩
      simp (disch := omega) only [zk_let, Option.bind_some, cond_true, cond_false, if_true, if_false, zbF, zbT, within_in, jn9, k0, k1, k2, k3, k4, k5, k6, k7, k8, k9, k10, k12, k16, k17, k20, k29, k30, k31, k32, k36, k40, k41, k42, k48, k57, k59, k60, k64, k98, k99, k100, k112, k128, k200, k255, k256, k378, k420, k999, k1000000, jN_add, jN_mul, jN_clamp, jN_inbT, Bool.false_eq_true, Bool.true_eq_false, jN_le]
      rw [if_pos (by omega)]
    · right
      refine ⟨by omega, (zk_row y 40 (upd (upd (upd r (5 + k) (jN 3)) (17 + k) (jN 0)) (29 + k) (jN 0)), jN (k + 1)), ?_, rfl, _, rfl, hr.setE hT (by omega)⟩
      simp (disch := omega) only [zk_let, Option.bind_some, cond_true, cond_false, if_true, if_false, zbF, zbT, within_in, jn9, k0, k1, k2, k3, k4, k5, k6, k7, k8, k9, k10, k12, k16, k17, k20, k29, k30, k31, k32, k36, k40, k41, k42, k48, k57, k59, k60, k64, k98, k99, k100, k112, k128, k200, k255, k256, k378, k420, k999, k1000000, jN_add, jN_mul, jN_clamp, jN_inbT, Bool.false_eq_true, Bool.true_eq_false, jN_le, zk_u_row, zk_row_row, zk_row_on]
      rw [if_neg (by omega)]) 500 (zk_row y 40 r, jN 0) ⟨rfl, r, rfl, sx⟩ (by omega)
  subst h2
  exact ⟨r', h1, h3⟩
theorem zEm.bolt {T R : Nat → Nat → Nat} {r : Nat → Int32} {e : Nat} (h : zEm T R 0 r) (he : e < 2 * T 0 1) (h0 : R 2 e = 0) : zEm T (setE R e 3 0 0) 0 (upd (upd r (3 * e) (jN 3)) (3 * e + 1) (jN 0)) := by
  intro f hf
  by_cases c : f = e
  · subst c
    rw [setE_0, setE_1, setE_2, Nat.zero_add]
    refine ⟨?_, ?_, ?_⟩
    · rw [upd_ne (by omega), upd_same]
    · rw [upd_same]
    · rw [upd_ne (by omega), upd_ne (by omega)]
      have := (h f hf).2.2
      rw [Nat.zero_add, h0] at this
      exact this
  · rw [setE_ne c, setE_ne c, setE_ne c, upd_ne (by omega), upd_ne (by omega), upd_ne (by omega), upd_ne (by omega), upd_ne (by omega), upd_ne (by omega)]
    exact h f hf
theorem boltM {T R : Nat → Nat → Nat} {z : zkM} {r : Nat → Int32} (hT : zTb T) (hS : zEb T R) (hm : zTm T z.1) (sm : zEm T R 0 r) : ∃ r', fMd_bolts_L77 500 (zk_row z 16 r) (jN 0) = some (zk_row z 16 r') ∧ zEm T (rbM R (2 * T 0 1)) 0 r' := by
  have t2 := hT.2.1
  obtain ⟨q, h1, r', h2, h3⟩ := zl_loop (fun m (s : zkM × Int32) => fMd_bolts_L77 m s.1 s.2) (fun k s => s.2 = jN k ∧ ∃ r, s.1 = zk_row z 16 r ∧ zEm T (rbM R k) 0 r) (2 * T 0 1) (fun q => ∃ r, q = zk_row z 16 r ∧ zEm T (rbM R (2 * T 0 1)) 0 r) (by
    rintro m k ⟨s, x⟩ hk ⟨e1, r, e2, hr⟩
    dsimp only at e1 e2
    subst e1; subst e2
    have hP : (zk_row z 16 r).1 0 2 = jN (T 0 1) := by rw [zk_row_off (by omega)]; exact hm.2.1
    simp only [fMd_bolts_L77, hP]
    by_cases c : k = 2 * T 0 1
    · left
      refine ⟨_, ?_, r, rfl, c ▸ hr⟩
      simp (disch := omega) only [zk_let, Option.bind_some, cond_true, cond_false, if_true, if_false, zbF, zbT, within_in, jn9, k0, k1, k2, k3, k4, k5, k6, k7, k8, k9, k10, k12, k16, k17, k20, k29, k30, k31, k32, k36, k40, k41, k42, k48, k57, k59, k60, k64, k98, k99, k100, k112, k128, k200, k255, k256, k378, k420, k999, k1000000, jN_add, jN_mul, jN_clamp, jN_inbT, Bool.false_eq_true, Bool.true_eq_false, jN_le]
      rw [if_pos (by omega)]
    · right
      have hk2 : k < 2 * T 0 1 := by omega
      have e3 := (hr k hk2).2.2
      rw [Nat.zero_add, rbM_ge (Nat.le_refl k)] at e3
      have b3 := (hS k hk2).2.2.1
      refine ⟨hk2, ?_⟩
      simp (disch := omega) only [zk_let, Option.bind_some, cond_true, cond_false, if_true, if_false, zbF, zbT, within_in, jn9, k0, k1, k2, k3, k4, k5, k6, k7, k8, k9, k10, k12, k16, k17, k20, k29, k30, k31, k32, k36, k40, k41, k42, k48, k57, k59, k60, k64, k98, k99, k100, k112, k128, k200, k255, k256, k378, k420, k999, k1000000, jN_add, jN_mul, jN_clamp, jN_inbT, Bool.false_eq_true, Bool.true_eq_false, jN_le, zk_u_row, zk_row_row, zk_row_on, e3, jN_eq]
      rw [if_neg (by omega)]
      by_cases c0 : R 2 k = 0
      · refine ⟨(zk_row z 16 (upd (upd r (3 * k) (jN 3)) (3 * k + 1) (jN 0)), jN (k + 1)), ?_, rfl, _, rfl, ?_⟩
        · rw [if_pos c0]; rfl
        · simp only [rbM]; rw [if_pos c0]; exact hr.bolt hk2 (by rw [rbM_ge (Nat.le_refl k)]; exact c0)
      · refine ⟨(zk_row z 16 r, jN (k + 1)), ?_, rfl, _, rfl, ?_⟩
        · rw [if_neg c0]; rfl
        · simp only [rbM]; rw [if_neg c0]; exact hr) 500 (zk_row z 16 r, jN 0) ⟨rfl, r, rfl, sm⟩ (by omega)
  subst h2
  exact ⟨r', h1, h3⟩
theorem pr_bolts {y z : zkM} (h : zRel y z) (a1 : Int32) (a2 : Int32) (a3 : Int32) : ∃ v y' z', sX_bolts y a1 a2 a3 v y' ∧ sM_bolts z a1 a2 a3 v z' ∧ zRel y' z' := by
  obtain ⟨T, R, hA0⟩ := h.all
  obtain ⟨hT, hx, hm, hS, sx, sm, -⟩ := id hA0
  have t2 := hT.2.1
  have hE : zEb T R := hS.2
  obtain ⟨r, e3, hr, kn⟩ := hA0.ends
  obtain ⟨q, e4, hq⟩ := cpL hT sx
  unfold sX_bolts sM_bolts fTp_bolts fMd_bolts fTp_isForce fMd_isForce fForecast_lostBehind fForecast_lostIfBolted
  simp only [within_in, zbF, k0, k1, k2, k3, k4, k5, k6, k7, k8, k9, k10, k12, k16, k17, k20, k29, k30, k31, k32, k36, k40, k41, k42, k48, k57, k59, k60, k64, k98, k99, k100, k112, k128, k200, k255, k256, k378, k420, k999, k1000000]
  rcases in_fr a1 (lo := 1) (hi := 9) (by omega) (by omega) with ⟨hw, g, -, hg, rfl⟩ | ⟨hw, -⟩
  · simp only [hw, Bool.true_eq_false, if_false]
    rcases in_fr a2 (lo := 1) (hi := 30) (by omega) (by omega) with ⟨hw2, n, -, hn, rfl⟩ | ⟨hw2, -⟩
    · simp only [hw2, Bool.true_eq_false, if_false]
      rcases in_fr a3 (lo := 0) (hi := 1) (by omega) (by omega) with ⟨hv, w, -, hw1, rfl⟩ | ⟨hv, -⟩
      · simp only [hv, Bool.true_eq_false, if_false, e3, e4, Option.bind_some, zk_let]
        obtain ⟨r1, f1⟩ := tellX hT hE hx hq hg hn
        obtain ⟨r2, f2, hr2⟩ := bolts35_spec hT hE hm hr hg hn
        have f3 := outSetM (z := zk_row z 16 r2) hT (hm.congr rfl rfl rfl rfl rfl rfl) hE (hE.blN hT hg n) (by rw [zk_row_off (by omega)]; exact sm) (by rw [zk_row_on]; exact hr2)
        simp only [f1, f2, f3, Option.bind_some, bitsN hT hE hx sx]
        rw [bs_andnot (by omega)]
        have e9 : bs (fun k => oB (blN T R g n) k && !oB R k) (2 * T 0 1) = bs (nB R (blN T R g n)) (2 * T 0 1) := rfl
        rw [e9]
        by_cases c0 : jN w = jN 0
        · rw [if_pos c0, if_pos c0]
          exact ⟨_, _, _, rfl, rfl, (hA0.same zKx.r40 zKm.r16).rel⟩
        · rw [if_neg c0, if_neg c0]
          have hAx : zAll T R (zk_row y 40 r1) (zk_row z 16 r2) := hA0.same zKx.r40 zKm.r16
          obtain ⟨-, -, -, -, sxx, smm, -⟩ := id hAx
          obtain ⟨q1, e5, hq1⟩ := cpL (y := zk_row y 40 r1) hT sxx
          obtain ⟨r5, e6, hr5, -⟩ := hAx.ends
          rw [zk_row_row] at e5 e6
          obtain ⟨q2, e7, hq2⟩ := boltX hT hx hq1
          obtain ⟨q3, e8⟩ := tellX hT (rbX_b (R := R)) hx hq2 hg hn
          obtain ⟨r6, e10, hr6⟩ := boltM hT hE hm hr5
          obtain ⟨r7, e11, hr7⟩ := bolts133_spec hT (rbM_b hE) hm hr6 hg hn
          have f4 := outSetM (z := zk_row z 16 r7) hT (hm.congr rfl rfl rfl rfl rfl rfl) hE ((rbM_b hE).blN hT hg n) (by rw [zk_row_off (by omega)]; exact sm) (by rw [zk_row_on]; exact hr7)
          simp only [e5, e6, e7, e8, e10, e11, f4, Option.bind_some]
          rw [bs_andnot (by omega), bs_andnot (by omega)]
          refine ⟨_, _, _, rfl, ?_, (hA0.same (zKx.r40 (r := q3)) (zKm.r16 (r := r7))).rel⟩
          congr 3
          apply bs_congr
          intro k hk
          cases e : oB R k with
          | true => simp [nB, e]
          | false =>
            have h0 : R 2 k = 0 := by have := (hE k hk).2.2.1; simp [oB] at e; omega
            obtain ⟨i0, i1, i2⟩ := rbX_lt (R := R) hk
            obtain ⟨j0, j1, j2⟩ := rbM_in (R := R) hk h0
            have := (blN_same (T := T) (g := g) hk (i0.trans j0.symm) (i1.trans j1.symm) (i2.trans j2.symm) n).2.2
            simp [nB, oB, this, h0]
      · exact ⟨-jN 1, y, z, by simp [hv], by simp [hv], h⟩
    · exact ⟨-jN 1, y, z, by simp [hw2], by simp [hw2], h⟩
  · exact ⟨-jN 1, y, z, by simp [hw], by simp [hw], h⟩
