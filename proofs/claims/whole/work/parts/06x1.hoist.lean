/-! hoist -/
def pc (s : Nat) : Nat := cnt (fun i => s.testBit i) 12
theorem pc_le : ∀ s, s < 32 → pc s ≤ 5 := by decide +kernel
theorem pc_lt : ∀ s, s < 64 → pc s ≤ 6 := by decide +kernel
theorem shr_all : ∀ s, s < 256 → ∀ c, c < 8 → (jN s >>> (jN c &&& jN 31)) &&& jN 1 = jN (if s.testBit c = true then 1 else 0) := by decide +kernel
theorem has_all {s c : Nat} (hs : s < 256) (hc : c < 8) : fMd_has (jN s) (jN c) = s.testBit c := by
  have h := shr_all s hs c hc
  unfold fMd_has
  rw [k1, show (31 : Int32) = jN 31 from k31, h]
  cases s.testBit c <;> decide
theorem bits_mem (m m' : zkM) : ∀ n a b, fMd_bits_L4 n m a b = fMd_bits_L4 n m' a b := by
  intro n
  induction n with
  | zero => intro a b; rfl
  | succ n ih => intro a b; simp only [fMd_bits_L4, zk_let]; rw [ih]
theorem bits_all : ∀ s, s < 64 → fMd_bits (fun _ _ => 0, fun _ _ => 0) (jN s) = some (jN (pc s)) := by decide +kernel
theorem bitsM {z : zkM} {s : Nat} (h : s < 64) : fMd_bits z (jN s) = some (jN (pc s)) := by
  rw [← bits_all s h]; unfold fMd_bits; rw [bits_mem z (fun _ _ => 0, fun _ _ => 0)]
theorem in_mix {a l g : Int} (h1 : -100000 < a) (h2 : a < 100000) (h3 : -100000 < l) (h4 : l < 100000) (h5 : -100000 < g) (h6 : g < 100000) : fMd_in (iI a) (iI l) (iI g) = decide (l ≤ a ∧ a ≤ g) := by
  unfold fMd_in
  simp only [iI_lt (show -2147483648 ≤ a by omega) (show a < 2147483648 by omega) (show -2147483648 ≤ l by omega) (show l < 2147483648 by omega), iI_lt (show -2147483648 ≤ g by omega) (show g < 2147483648 by omega) (show -2147483648 ≤ a by omega) (show a < 2147483648 by omega)]
  by_cases c1 : a < l
  · rw [if_pos c1, decide_eq_false]; omega
  · rw [if_neg c1]
    by_cases c2 : g < a
    · rw [if_pos c2, decide_eq_false]; omega
    · rw [if_neg c2, decide_eq_true]; omega
/-- the weight of a set of children, of those below c -/
def wS (T : Nat → Nat → Nat) (s : Nat) : Nat → Nat
  | 0 => 0
  | c + 1 => wS T s c + (if s.testBit c = true then T 7 c else 0)
theorem wS_le {T : Nat → Nat → Nat} (hT : zTb T) {s K : Nat} (hK : K ≤ T 0 2) : wS T s K ≤ 9 * K := by
  induction K with
  | zero => simp [wS]
  | succ K ih =>
    have := ih (by omega)
    have := (hT.2.2.2.2.2 K (by omega)).2.1
    simp only [wS]; split <;> omega
theorem wS_0 {T : Nat → Nat → Nat} {K : Nat} : wS T 0 K = 0 := by
  induction K with
  | zero => rfl
  | succ K ih => simp [wS, ih]
theorem weightOf_spec {T : Nat → Nat → Nat} {y : zkM} {s : Nat} (hT : zTb T) (hx : zTx T y.1) (hs : s < 256) : fTree_weightOf y (jN s) = some (jN (wS T s (T 0 2))) := by
  have t3 := hT.2.2.1
  unfold fTree_weightOf
  have := zl_eq (fun n (q : Int32 × Int32) => fTree_weightOf_L4 n y (jN s) q.1 q.2) (fun k => (jN (wS T s k), jN k)) (T 0 2) (jN (wS T s (T 0 2))) ?_ ?_ 500 (by omega)
  · rw [k0]; dsimp only at this; rw [show wS T s 0 = 0 from rfl] at this; rw [this]; rfl
  · intro n k hk
    simp only [fTree_weightOf_L4]
    simp (disch := omega) only [zk_let, Option.bind_some, cond_true, cond_false, if_true, if_false, zbF, zbT, within_in, jn9, k0, k1, k2, k3, k4, k5, k6, k7, k8, k9, k10, k12, k16, k17, k20, k29, k30, k31, k32, k36, k40, k41, k42, k48, k57, k59, k60, k64, k98, k99, k100, k112, k128, k200, k255, k256, k378, k420, k999, k1000000, jN_add, jN_mul, jN_clamp, jN_inbT, Bool.false_eq_true, Bool.true_eq_false, hx.2.2.1, jN_le, shr_all s hs k (by omega), (hx.2.2.2.2.2 k hk).1]
    rw [if_neg (by omega)]
    simp only [wS]
    cases s.testBit k
    · simp only [Bool.false_eq_true, if_false, if_true, Option.bind_some, Nat.add_zero]
    · simp only [if_true]
      rw [if_neg (by decide)]
      rfl
  · intro n
    simp only [fTree_weightOf_L4]
    simp (disch := omega) only [zk_let, Option.bind_some, cond_true, cond_false, if_true, if_false, zbF, zbT, within_in, jn9, k0, k1, k2, k3, k4, k5, k6, k7, k8, k9, k10, k12, k16, k17, k20, k29, k30, k31, k32, k36, k40, k41, k42, k48, k57, k59, k60, k64, k98, k99, k100, k112, k128, k200, k255, k256, k378, k420, k999, k1000000, jN_add, jN_mul, jN_clamp, jN_inbT, Bool.false_eq_true, Bool.true_eq_false, hx.2.2.1, jN_le]
    rw [if_pos (by omega)]
theorem hoist47 {T : Nat → Nat → Nat} {z : zkM} {s : Nat} (hT : zTb T) (hm : zTm T z.1) (hs : s < 256) : fMd_hoist_L47 500 z (jN s) (jN 0) (jN 0) = some (jN (wS T s (T 0 2))) := by
  have t3 := hT.2.2.1
  have := zl_eq (fun n (q : Int32 × Int32) => fMd_hoist_L47 n z (jN s) q.1 q.2) (fun k => (jN (wS T s k), jN k)) (T 0 2) (jN (wS T s (T 0 2))) ?_ ?_ 500 (by omega)
  · exact this
  · intro n k hk
    simp only [fMd_hoist_L47]
    rw [has_all hs (by omega)]
    simp (disch := omega) only [zk_let, Option.bind_some, cond_true, cond_false, if_true, if_false, zbF, zbT, within_in, jn9, k0, k1, k2, k3, k4, k5, k6, k7, k8, k9, k10, k12, k16, k17, k20, k29, k30, k31, k32, k36, k40, k41, k42, k48, k57, k59, k60, k64, k98, k99, k100, k112, k128, k200, k255, k256, k378, k420, k999, k1000000, jN_add, jN_mul, jN_clamp, jN_inbT, Bool.false_eq_true, Bool.true_eq_false, hm.2.2.1, jN_le, (hm.2.2.2.2.2 k hk).1]
    rw [if_neg (by omega)]
    simp only [wS]
    cases s.testBit k
    · simp only [Bool.false_eq_true, if_false, if_true, Option.bind_some, jN_add, Nat.add_zero]
    · simp only [Bool.true_eq_false, if_true, if_false, Option.bind_some, jN_add]
  · intro n
    simp only [fMd_hoist_L47]
    simp (disch := omega) only [zk_let, Option.bind_some, cond_true, cond_false, if_true, if_false, zbF, zbT, within_in, jn9, k0, k1, k2, k3, k4, k5, k6, k7, k8, k9, k10, k12, k16, k17, k20, k29, k30, k31, k32, k36, k40, k41, k42, k48, k57, k59, k60, k64, k98, k99, k100, k112, k128, k200, k255, k256, k378, k420, k999, k1000000, jN_add, jN_mul, jN_clamp, jN_inbT, Bool.false_eq_true, Bool.true_eq_false, hm.2.2.1, jN_le]
    rw [if_pos (by omega)]
/-- the best set below k; 0: none -/
def bst (ok : Nat → Bool) : Nat → Nat
  | 0 => 0
  | k + 1 => if ok k = true ∧ (bst ok k = 0 ∨ pc k < pc (bst ok k)) then k else bst ok k
theorem bst_le (ok : Nat → Bool) (k : Nat) : bst ok k ≤ k := by
  induction k with
  | zero => simp [bst]
  | succ k ih => simp only [bst]; split <;> omega
def hX (b : Nat) : Int32 × Int32 := if b = 0 then (jNo, jN 6) else (jN b, jN (pc b))
def hY (b : Nat) : Int32 := if b = 0 then jNo else jN b
def okS (T : Nat → Nat → Nat) (l : Nat) (g : Int) (s : Nat) : Bool := decide (l ≤ wS T s (T 0 2) ∧ (wS T s (T 0 2) : Int) ≤ g)
theorem fewX {T : Nat → Nat → Nat} {y : zkM} {l : Nat} {g : Int} (hT : zTb T) (hx : zTx T y.1) (h1 : 1 ≤ l) (hl : l < 1000) (hg : -90000 < g) (hg2 : g < 90000) : fTp_fewestPulling y (jN l) (iI g) = some (hY (bst (okS T l g) (2 ^ T 0 2))) := by
  have t3 := hT.2.2.1
  have p1 : 2 ^ T 0 2 ≤ 2 ^ 5 := Nat.pow_le_pow_right (by omega) t3
  have p2 : 1 ≤ 2 ^ T 0 2 := Nat.one_le_two_pow
  have hb1 : bst (okS T l g) 1 = 0 := by
    have : okS T l g 0 = false := by unfold okS; rw [wS_0]; simp; omega
    simp [bst]
  unfold fTp_fewestPulling
  have := zl_eq (fun n (q : Int32 × Int32 × Int32) => fTp_fewestPulling_L10 n y (jN l) (iI g) q.1 q.2.1 q.2.2) (fun i => ((hX (bst (okS T l g) (i + 1))).1, (hX (bst (okS T l g) (i + 1))).2, jN (i + 1))) (2 ^ T 0 2 - 1) (hY (bst (okS T l g) (2 ^ T 0 2))) ?_ ?_ 500 (by omega)
  · dsimp only at this
    rw [Nat.zero_add, hb1] at this
    rw [jNo_def, k6, k1]
    rw [show (hX 0).1 = jNo from rfl, show (hX 0).2 = jN 6 from rfl] at this
    rw [this]; rfl
  · intro n i hi
    have hk : i + 1 < 2 ^ T 0 2 := by omega
    generalize i + 1 = k at hk
    have hw := wS_le (s := k) hT (Nat.le_refl _)
    have hpk := pc_le k (by omega)
    have hble := bst_le (okS T l g) k
    have hpb := pc_le (bst (okS T l g) k) (by omega)
    have hin : fMd_in (jN (wS T k (T 0 2))) (jN l) (iI g) = okS T l g k := by
      unfold jN okS
      rw [in_mix (by omega) (by omega) (by omega) (by omega) (by omega) (by omega)]
      apply decide_eq_decide.mpr
      omega
    have hbc : fJint_bitCount (jN k) = jN (pc k) := bitCount_jN (by omega)
    simp only [fTp_fewestPulling_L10, weightOf_spec hT hx (show k < 256 by omega)]
    simp (disch := omega) only [zk_let, Option.bind_some, cond_true, cond_false, if_true, if_false, zbF, zbT, within_in, jn9, k0, k1, k2, k3, k4, k5, k6, k7, k8, k9, k10, k12, k16, k17, k20, k29, k30, k31, k32, k36, k40, k41, k42, k48, k57, k59, k60, k64, k98, k99, k100, k112, k128, k200, k255, k256, k378, k420, k999, k1000000, jN_add, jN_mul, jN_clamp, jN_inbT, Bool.false_eq_true, Bool.true_eq_false, hx.2.2.1, sh1, jN_le, hin, hbc]
    rw [if_neg (by omega)]
    simp only [bst]
    cases e : okS T l g k
    · simp
    · simp only [Bool.true_eq_false, if_false, true_and]
      by_cases c0 : bst (okS T l g) k = 0
      · rw [c0]
        simp only [hX, if_true, true_or]
        simp (disch := omega) only [jN_le]
        rw [if_neg (by omega)]
        by_cases ck : k = 0
        · subst ck; unfold okS at e; rw [wS_0] at e; simp at e; omega
        · rw [if_neg ck]
      · simp only [c0, false_or]
        by_cases c1 : pc k < pc (bst (okS T l g) k)
        · rw [if_pos c1]
          simp only [hX, c0, if_false]
          simp (disch := omega) only [jN_le]
          rw [if_neg (by omega)]
          by_cases ck : k = 0
          · subst ck; unfold okS at e; rw [wS_0] at e; simp at e; omega
          · rw [if_neg ck]
        · rw [if_neg c1]
          simp only [hX, c0, if_false]
          simp (disch := omega) only [jN_le]
          rw [if_pos (by omega)]
  · intro n
    rw [show 2 ^ T 0 2 - 1 + 1 = 2 ^ T 0 2 by omega]
    simp only [fTp_fewestPulling_L10]
    simp (disch := omega) only [zk_let, Option.bind_some, cond_true, cond_false, if_true, if_false, zbF, zbT, within_in, jn9, k0, k1, k2, k3, k4, k5, k6, k7, k8, k9, k10, k12, k16, k17, k20, k29, k30, k31, k32, k36, k40, k41, k42, k48, k57, k59, k60, k64, k98, k99, k100, k112, k128, k200, k255, k256, k378, k420, k999, k1000000, jN_add, jN_mul, jN_clamp, jN_inbT, Bool.false_eq_true, Bool.true_eq_false, hx.2.2.1, sh1, jN_le]
    rw [if_pos (by omega)]
    unfold hX hY
    split <;> rfl
theorem hoistM {T : Nat → Nat → Nat} {z : zkM} {b w bb : Nat} (hT : zTb T) (hm : zTm T z.1) (hb : b < T 0 0) (h1 : 1 ≤ w) (hw : w ≤ 60) (h15 : z.1 15 b = jN bb) (hbb : bb < 80000) : fMd_hoist_L30 500 z (jN b) (jN w) jNo (jN 0) = some (hY (bst (okS T (w + T 1 b / 4) ((T 2 b : Int) - bb - w)) (2 ^ T 0 2))) := by
  obtain ⟨t1, t2, t3, t4, t5, t6⟩ := id hT
  have p1 : 2 ^ T 0 2 ≤ 2 ^ 5 := Nat.pow_le_pow_right (by omega) t3
  have hbb4 := t4 b hb
  have m4 := hm.2.2.2.1 b hb
  generalize hok : okS T (w + T 1 b / 4) ((T 2 b : Int) - bb - w) = ok
  have := zl_eq (fun n (q : Int32 × Int32) => fMd_hoist_L30 n z (jN b) (jN w) q.1 q.2) (fun k => (hY (bst ok k), jN k)) (2 ^ T 0 2) (hY (bst ok (2 ^ T 0 2))) ?_ ?_ 500 (by omega)
  · exact this
  · intro n k hk
    have hw' := wS_le (s := k) hT (Nat.le_refl _)
    have hble := bst_le ok k
    simp only [fMd_hoist_L30, k0, hoist47 hT hm (show k < 256 by omega)]
    simp (disch := omega) only [zk_let, Option.bind_some, cond_true, cond_false, if_true, if_false, zbF, zbT, within_in, jn9, k0, k1, k2, k3, k4, k5, k6, k7, k8, k9, k10, k12, k16, k17, k20, k29, k30, k31, k32, k36, k40, k41, k42, k48, k57, k59, k60, k64, k98, k99, k100, k112, k128, k200, k255, k256, k378, k420, k999, k1000000, jN_add, jN_mul, jN_clamp, jN_inbT, Bool.false_eq_true, Bool.true_eq_false, hm.2.2.1, sh1, jN_le, jN_lt, m4.1, m4.2.1, h15, jN_div]
    rw [if_neg (by omega)]
    simp only [bst]
    have hk0 : ok k = true → k ≠ 0 := by
      intro e ck
      subst ck
      rw [← hok] at e; unfold okS at e; rw [wS_0] at e; simp at e; omega
    have hokk : ok k = decide (w + T 1 b / 4 ≤ wS T k (T 0 2) ∧ bb + w + wS T k (T 0 2) ≤ T 2 b) := by
      rw [← hok]; unfold okS; apply decide_eq_decide.mpr; omega
    have fin : ∀ v : Bool, v = ok k → ((some v).bind fun q3 => (if q3 = false then some (hY (bst ok k)) else if hY (bst ok k) = jNo then some (jN k) else (fMd_bits z (jN k)).bind fun q9 => (fMd_bits z (hY (bst ok k))).bind fun q10 => if q10 ≤ q9 then some (hY (bst ok k)) else some (jN k)).bind fun q8 => fMd_hoist_L30 n z (jN b) (jN w) q8 (jN (k + 1))) = fMd_hoist_L30 n z (jN b) (jN w) (hY (if ok k = true ∧ (bst ok k = 0 ∨ pc k < pc (bst ok k)) then k else bst ok k)) (jN (k + 1)) := by
      intro v hv
      subst hv
      simp only [Option.bind_some]
      cases e : ok k
      · simp
      · simp only [Bool.true_eq_false, if_false, true_and]
        have hkn := hk0 e
        by_cases c0 : bst ok k = 0
        · simp only [c0, hY, if_true, true_or, hkn, if_false, Option.bind_some]
        · have hY1 : hY (bst ok k) = jN (bst ok k) := if_neg c0
          have hp1 := pc_le k (by omega)
          have hp2 := pc_le (bst ok k) (by omega)
          rw [hY1, if_neg (jN_no (by omega)), bitsM (by omega), bitsM (by omega)]
          simp only [Option.bind_some, c0, false_or]
          simp (disch := omega) only [jN_le]
          by_cases c1 : pc k < pc (bst ok k)
          · rw [if_neg (by omega), if_pos c1]
            simp only [Option.bind_some, hY, hkn, if_false]
          · rw [if_pos (by omega), if_neg c1, hY1]
            simp only [Option.bind_some]
    by_cases c1 : wS T k (T 0 2) < w + T 1 b / 4
    · rw [if_pos c1]
      exact fin false (by rw [hokk]; simp; omega)
    · rw [if_neg c1]
      by_cases c2 : T 2 b < bb + w + wS T k (T 0 2)
      · rw [if_pos c2]
        exact fin false (by rw [hokk]; simp; omega)
      · rw [if_neg c2]
        exact fin true (by rw [hokk]; simp; omega)
  · intro n
    simp only [fMd_hoist_L30]
    simp (disch := omega) only [zk_let, Option.bind_some, cond_true, cond_false, if_true, if_false, zbF, zbT, within_in, jn9, k0, k1, k2, k3, k4, k5, k6, k7, k8, k9, k10, k12, k16, k17, k20, k29, k30, k31, k32, k36, k40, k41, k42, k48, k57, k59, k60, k64, k98, k99, k100, k112, k128, k200, k255, k256, k378, k420, k999, k1000000, jN_add, jN_mul, jN_clamp, jN_inbT, Bool.false_eq_true, Bool.true_eq_false, hm.2.2.1, sh1, jN_le]
    rw [if_pos (by omega)]
theorem pr_hoist {y z : zkM} (h : zRel y z) (a1 : Int32) (a2 : Int32) : ∃ v y' z', sX_hoist y a1 a2 v y' ∧ sM_hoist z a1 a2 v z' ∧ zRel y' z' := by
  obtain ⟨T, R, hA⟩ := h.all
  obtain ⟨hT, hx, hm, -⟩ := id hA
  obtain ⟨t1, t2, t3, t4, t5, t6⟩ := id hT
  unfold sX_hoist sM_hoist fTp_hoist fMd_hoist fMd_isBough
  simp only [within_in, hx.1, hm.1, zbF, k0, k1, k2, k3, k4, k5, k6, k7, k8, k9, k10, k12, k16, k17, k20, k29, k30, k31, k32, k36, k40, k41, k42, k48, k57, k59, k60, k64, k98, k99, k100, k112, k128, k200, k255, k256, k378, k420, k999, k1000000]
  rcases in_lt a1 (K := T 0 0) (by omega) with ⟨hw, b, hb, rfl⟩ | ⟨hw, -⟩
  · simp only [hw, Bool.true_eq_false, if_false]
    obtain ⟨y1, z1, e1, e2, kx, km, l1, l2, hA1⟩ := hA.weigh
    obtain ⟨-, hx1, hm1, -⟩ := id hA1
    rcases in_fr a2 (lo := 1) (hi := 60) (by omega) (by omega) with ⟨h2, w, hw1, hw2, rfl⟩ | ⟨h2, hn⟩
    · have hbb := be_lt (L := ldN T R) hT (fun p _ => ldN_lt hT p) b
      have hbb' : be T (ldN T R) (T 0 1) b < 80000 := by
        have := be_le (T := T) (L := ldN T R) (M := 1000) (T 0 1) b (fun p hp => by have := ldN_lt (R := R) hT p; omega)
        omega
      have b4 := t4 b hb
      have x4 := hx1.2.2.2.1 b hb
      have hgr : jN (T 2 b) - jN (be T (ldN T R) (T 0 1) b) - jN w = iI ((T 2 b : Int) - (be T (ldN T R) (T 0 1) b : Nat) - w) := by unfold jN; rw [iI_sub, iI_sub]
      have f1 := fewX (l := w + T 1 b / 4) (g := (T 2 b : Int) - (be T (ldN T R) (T 0 1) b : Nat) - w) hT hx1 (by omega) (by omega) (by omega) (by omega)
      have f2 := hoistM hT hm1 hb hw1 hw2 (l2.2 b hb) hbb'
      refine ⟨hY (bst (okS T (w + T 1 b / 4) ((T 2 b : Int) - (be T (ldN T R) (T 0 1) b : Nat) - w)) (2 ^ T 0 2)), y1, z1, ?_, ?_, hA1.rel⟩
      · simp only [h2, Bool.true_eq_false, if_false, e1, Option.bind_some]
        simp (disch := omega) only [zk_let, Option.bind_some, cond_true, cond_false, if_true, if_false, zbF, zbT, within_in, jn9, k0, k1, k2, k3, k4, k5, k6, k7, k8, k9, k10, k12, k16, k17, k20, k29, k30, k31, k32, k36, k40, k41, k42, k48, k57, k59, k60, k64, k98, k99, k100, k112, k128, k200, k255, k256, k378, k420, k999, k1000000, jN_add, jN_mul, jN_clamp, jN_inbT, Bool.false_eq_true, Bool.true_eq_false, x4.1, x4.2.1, l1.2 b hb, jN_div, hgr, f1]
      · simp only [h2, Bool.true_eq_false, if_false, e2, Option.bind_some, jn9, f2]
    · exact ⟨-jN 1, y, z, by simp [h2], by simp [h2], h⟩
  · exact ⟨-jN 1, y, z, by simp [hw], by simp [hw], h⟩
