/-! the class's planner -/
def zFx (y mem : zkM) : Prop := (∀ k, k ≠ 30 → (k < 32 ∨ 37 < k) → mem.1 k = y.1 k) ∧ mem.2 = y.2
theorem zFx.rf (y : zkM) : zFx y y := ⟨fun _ _ _ => rfl, rfl⟩
theorem zFx.row {y mem : zkM} {k : Nat} {r : Nat → Int32} (h : zFx y mem) (hk : k = 30 ∨ (32 ≤ k ∧ k ≤ 37)) : zFx y (zk_row mem k r) :=
  ⟨fun j h1 h2 => by rw [zk_row_off (by omega)]; exact h.1 j h1 h2, h.2⟩
theorem zFx.u {y mem : zkM} {k i : Nat} {x : Int32} (h : zFx y mem) (hk : k = 30 ∨ (32 ≤ k ∧ k ≤ 37)) : zFx y (zk_u mem k i x) := by rw [zk_u_row]; exact h.row hk
theorem zFx.tx {T : Nat → Nat → Nat} {y mem : zkM} (h : zFx y mem) (hx : zTx T y.1) : zTx T mem.1 :=
  hx.congr (h.1 46 (by omega) (by omega)) (h.1 47 (by omega) (by omega)) (h.1 48 (by omega) (by omega)) (h.1 49 (by omega) (by omega)) (h.1 50 (by omega) (by omega)) (h.1 51 (by omega) (by omega)) (h.1 53 (by omega) (by omega)) (h.1 54 (by omega) (by omega))
theorem zFx.kx {y mem : zkM} (h : zFx y mem) : zKx y mem := by
  refine ⟨fun k hk => h.1 k (fun e => by subst e; cases hk) ?_, by rw [h.1 1 (by omega) (by omega)], by rw [h.1 9 (by omega) (by omega)], by rw [h.1 9 (by omega) (by omega)], by rw [h.1 26 (by omega) (by omega)], by rw [h.2]⟩
  by_cases c : k < 32 ∨ 37 < k
  · exact c
  · rcases (show k = 32 ∨ k = 33 ∨ k = 34 ∨ k = 35 ∨ k = 36 ∨ k = 37 by omega) with e | e | e | e | e | e <;> (subst e; cases hk)
def PR (T : Nat → Nat → Nat) (wo : Nat → Int) (y mem : zkM) (c : Nat) (u : Nat → Nat) (st : Int × Nat) : Prop :=
  zFx y mem ∧ (∀ j, j < c → mem.1 36 j = zOn T (u j)) ∧ (∀ j, j < T 0 2 → mem.1 34 j = iI (wo j)) ∧ (∀ j, j ≤ T 0 2 → mem.1 35 j = iI (hp T wo j)) ∧ mem.1 30 5 = iI st.1 ∧ -1 ≤ st.1 ∧ st.1 < 1000 ∧ (0 ≤ st.1 → ∀ j, j < T 0 2 → mem.1 37 j = zOn T (dp T (T 0 2) st.2 j))
def PS (T : Nat → Nat → Nat) (wo : Nat → Int) (y mem : zkM) (c : Nat) (u : Nat → Nat) (st : Int × Nat) : Prop := zLd T (ld T u c) (mem.1 32) (mem.1 33) ∧ PR T wo y mem c u st
theorem PR.congr {T : Nat → Nat → Nat} {wo : Nat → Int} {y mem : zkM} {c : Nat} {u u' : Nat → Nat} {st : Int × Nat} (h : PR T wo y mem c u st) (hu : ∀ j, j < c → u' j = u j) : PR T wo y mem c u' st :=
  ⟨h.1, fun j hj => by rw [hu j hj]; exact h.2.1 j hj, h.2.2⟩
theorem PS.congr {T : Nat → Nat → Nat} {wo : Nat → Int} {y mem : zkM} {c : Nat} {u u' : Nat → Nat} {st : Int × Nat} (h : PS T wo y mem c u st) (hu : ∀ j, j < c → u' j = u j) : PS T wo y mem c u' st :=
  ⟨by rw [ld_congr hu]; exact h.1, h.2.congr hu⟩
theorem PR.down {T : Nat → Nat → Nat} {wo : Nat → Int} {y mem : zkM} {c c' : Nat} {u : Nat → Nat} {st : Int × Nat} (h : PR T wo y mem c u st) (hc : c' ≤ c) : PR T wo y mem c' u st :=
  ⟨h.1, fun j hj => h.2.1 j (by omega), h.2.2⟩
theorem PR.rows {T : Nat → Nat → Nat} {wo : Nat → Int} {y mem : zkM} {c : Nat} {u : Nat → Nat} {st : Int × Nat} {a b : Nat → Int32} (h : PR T wo y mem c u st) : PR T wo y (zk_row (zk_row mem 32 a) 33 b) c u st :=
  ⟨(h.1.row (by omega)).row (by omega), h.2.1, h.2.2.1, h.2.2.2.1, h.2.2.2.2.1, h.2.2.2.2.2⟩
theorem PR.put {T : Nat → Nat → Nat} {wo : Nat → Int} {y mem : zkM} {c : Nat} {u : Nat → Nat} {st : Int × Nat} (h : PR T wo y mem c u st) : PR T wo y (zk_u mem 36 c (zOn T (u c))) (c + 1) u st := by
  refine ⟨h.1.u (by omega), fun j hj => ?_, ?_, ?_, ?_, h.2.2.2.2.2.1, h.2.2.2.2.2.2.1, ?_⟩
  · by_cases e : j = c
    · rw [e, zk_u_at]
    · rw [zk_u_ne e]; exact h.2.1 j (by omega)
  · rw [zk_u_off (by omega)]; exact h.2.2.1
  · rw [zk_u_off (by omega)]; exact h.2.2.2.1
  · rw [zk_u_off (by omega)]; exact h.2.2.2.2.1
  · rw [zk_u_off (by omega)]; exact h.2.2.2.2.2.2.2
theorem fitsP_spec {T : Nat → Nat → Nat} {L : Nat → Nat} {y : zkM} {p : Nat} (hT : zTb T) (hx : zTx T y.1) (h : zLd T L (y.1 32) (y.1 33)) (hl : ∀ p, p < T 0 1 → L p < 1000) (hp : p < T 0 1) : fBurden_fitsP y (jN p) = some (fit T L p) := by
  obtain ⟨t1, t2, t3, t4, t5, t6⟩ := id hT
  have hab := t5 p hp
  have x5 := hx.2.2.2.2.1 p hp
  have b1 := be_lt hT hl (T 4 p)
  have b2 := be_lt hT hl (T 5 p)
  have s1 := t4 _ hab.1
  have s2 := t4 _ hab.2.1
  have l1 := hl p hp
  unfold fBurden_fitsP
  simp (disch := omega) only [zk_let, Option.bind_some, cond_true, cond_false, if_true, if_false, zbF, zbT, within_in, jn9, k0, k1, k2, k3, k4, k5, k6, k7, k8, k9, k10, k12, k16, k17, k20, k29, k30, k31, k32, k36, k40, k41, k42, k48, k57, k59, k60, k64, k98, k99, k100, k112, k128, k200, k255, k256, k378, k420, k999, k1000000, jN_add, jN_mul, jN_clamp, jN_inbT, Bool.false_eq_true, Bool.true_eq_false, x5.1, x5.2.1, x5.2.2, h.1 p hp, h.2 _ hab.1, h.2 _ hab.2.1, (hx.2.2.2.1 _ hab.1).2.1, (hx.2.2.2.1 _ hab.2.1).2.1, jN_lt]
  by_cases c1 : T 6 p < L p
  · rw [if_pos c1, show fit T L p = false from decide_eq_false (by omega)]
  · rw [if_neg c1]
    by_cases c2 : T 2 (T 4 p) < be T L (T 0 1) (T 4 p)
    · rw [if_pos c2, show fit T L p = false from decide_eq_false (by omega)]
    · rw [if_neg c2]
      by_cases c3 : T 2 (T 5 p) < be T L (T 0 1) (T 5 p)
      · rw [if_pos c3, show fit T L p = false from decide_eq_false (by omega)]
      · rw [if_neg c3, show fit T L p = true from decide_eq_true (by omega)]
theorem sub_skip {T R : Nat → Nat → Nat} {wo : Nat → Int} {c x : Nat} {st : Int × Nat} (hT : zTb T) (hc : c ≤ T 0 2) (h : ¬ hA T R (ld T (dp T c x) c) = true) : fo (rF T R) (rV T wo) (x * (T 0 1 + 1) ^ (T 0 2 - c)) ((T 0 1 + 1) ^ (T 0 2 - c)) st = st := by
  apply fo_skip
  intro r hr hf
  refine absurd ?_ h
  unfold rF at hf
  have h1 := hA_pre (k := c) (d := T 0 2 - c) hT (by rw [show c + (T 0 2 - c) = T 0 2 by omega]; exact hf)
  rw [ld_congr (u' := dp T c x) (fun j hj => dp_anc hc hj hr)] at h1
  exact h1
theorem sub_prune {T R : Nat → Nat → Nat} {wo : Nat → Int} {c x : Nat} {st : Int × Nat} (hc : c ≤ T 0 2) (h : sV T wo (dp T c x) c + hp T wo c ≤ st.1) : fo (rF T R) (rV T wo) (x * (T 0 1 + 1) ^ (T 0 2 - c)) ((T 0 1 + 1) ^ (T 0 2 - c)) st = st := by
  apply fo_skip
  intro r hr _
  unfold rV
  have h1 := sV_hp (T := T) (wo := wo) (u := dp T (T 0 2) (x * (T 0 1 + 1) ^ (T 0 2 - c) + r)) (T 0 2 - c) (by omega)
  rw [show T 0 2 - (T 0 2 - c) = c by omega, sV_congr (u' := dp T c x) (fun j hj => dp_anc hc hj hr)] at h1
  unfold hp at h
  omega
theorem jN_back {a b : Nat} : jN (a + b) + -jN b = jN a := by unfold jN; rw [iI_neg, iI_add]; congr 1; omega
/-- a child is taken off its PLANK again -/
theorem backP {T : Nat → Nat → Nat} {u : Nat → Nat} {mem : zkM} {c : Nat} (hT : zTb T) (hx : zTx T mem.1) (hc : c < T 0 2) (hp : u c < T 0 1) (h : zLd T (ld T u (c + 1)) (mem.1 32) (mem.1 33)) : ∃ a b, fBurden_addP mem (jN (u c)) (-jN (T 7 c)) = some (zk_row (zk_row mem 32 a) 33 b) ∧ zLd T (ld T u c) a b := by
  have hself : ld T u (c + 1) (u c) = ld T u c (u c) + T 7 c := by simp [ld, hp]
  have l1 := ld_le (u := u) hT (show c + 1 ≤ T 0 2 by omega) (u c)
  have t3 := hT.2.2.1
  obtain ⟨a, b, e, hl⟩ := addP_spec (w := -jN (T 7 c)) (m := ld T u c (u c)) hT hx h hp (by rw [hself]; exact jN_back) (by omega) (by omega)
  refine ⟨a, b, e, ?_⟩
  have e9 : setL (ld T u (c + 1)) (u c) (ld T u c (u c)) = ld T u c := by
    funext q
    unfold setL
    by_cases cq : q = u c
    · rw [if_pos cq, cq]
    · rw [if_neg cq]
      simp only [ld]
      rw [if_neg (fun e => cq e.1.symm)]; rfl
  rw [e9] at hl
  exact hl
theorem place57 {T R : Nat → Nat → Nat} {wo : Nat → Int} {y mem0 : zkM} {rec : zkM → Int32 → Int32 → Option zkM} {c x : Nat} {st0 : Int × Nat} (hT : zTb T) (hx : zTx T y.1) (hS : zEb T R) (sx : zSx T R (y.1 5)) (hc : c < T 0 2) (hfe : hA T R (ld T (dp T c x) c) = true) (hps : PS T wo y mem0 c (dp T c x) st0)
    (hrec : ∀ mem x st, hA T R (ld T (dp T (c + 1) x) (c + 1)) = true → PS T wo y mem (c + 1) (dp T (c + 1) x) st → ∃ mem', rec mem (jN (c + 1)) (iI (sV T wo (dp T (c + 1) x) (c + 1))) = some mem' ∧ PS T wo y mem' (c + 1) (dp T (c + 1) x) (fo (rF T R) (rV T wo) (x * (T 0 1 + 1) ^ (T 0 2 - (c + 1))) ((T 0 1 + 1) ^ (T 0 2 - (c + 1))) st)) :
    ∃ mem', fPlanner_placeFrom_L57 rec 500 mem0 (jN c) (iI (sV T wo (dp T c x) c)) (jN 0) = some mem' ∧ PS T wo y mem' c (dp T c x) (fo (rF T R) (rV T wo) (x * (T 0 1 + 1) ^ (T 0 2 - c)) (T 0 1 * (T 0 1 + 1) ^ (T 0 2 - (c + 1))) st0) := by
  obtain ⟨t1, t2, t3, t4, t5, t6⟩ := id hT
  generalize hBm : (T 0 1 + 1) ^ (T 0 2 - (c + 1)) = Bm at hrec ⊢
  have hBn : (T 0 1 + 1) ^ (T 0 2 - c) = (T 0 1 + 1) * Bm := by rw [← hBm, show T 0 2 - c = (T 0 2 - (c + 1)) + 1 by omega, Nat.pow_succ, Nat.mul_comm]
  rw [hBn]
  have hidx : ∀ k, x * ((T 0 1 + 1) * Bm) + k * Bm = (x * (T 0 1 + 1) + k) * Bm := by intro k; rw [Nat.add_mul (x * (T 0 1 + 1)) k Bm, Nat.mul_assoc]
  obtain ⟨q, e1, e2⟩ := zl_loop (fun n (s : zkM × Int32) => fPlanner_placeFrom_L57 rec n s.1 (jN c) (iI (sV T wo (dp T c x) c)) s.2) (fun k s => s.2 = jN k ∧ PS T wo y s.1 c (dp T c x) (fo (rF T R) (rV T wo) (x * ((T 0 1 + 1) * Bm)) (k * Bm) st0)) (T 0 1) (fun q => PS T wo y q c (dp T c x) (fo (rF T R) (rV T wo) (x * ((T 0 1 + 1) * Bm)) (T 0 1 * Bm) st0)) (by
    rintro n k ⟨mem, x9⟩ hk ⟨f1, hp⟩
    dsimp only at f1 hp
    subst f1
    have hfr := hp.2.1
    have hxm := hfr.tx hx
    have hsm : zSx T R (mem.1 5) := by rw [hfr.1 5 (by omega) (by omega)]; exact sx
    simp only [fPlanner_placeFrom_L57, hxm.2.1]
    by_cases ck : k = T 0 1
    · left
      refine ⟨mem, ?_, by rw [ck] at hp; exact hp⟩
      simp (disch := omega) only [zk_let, Option.bind_some, cond_true, cond_false, if_true, if_false, zbF, zbT, within_in, jn9, k0, k1, k2, k3, k4, k5, k6, k7, k8, k9, k10, k12, k16, k17, k20, k29, k30, k31, k32, k36, k40, k41, k42, k48, k57, k59, k60, k64, k98, k99, k100, k112, k128, k200, k255, k256, k378, k420, k999, k1000000, jN_add, jN_mul, jN_clamp, jN_inbT, Bool.false_eq_true, Bool.true_eq_false, jN_le]
      rw [if_pos (by omega)]
    · right
      have hk2 : k < T 0 1 := by omega
      refine ⟨hk2, ?_⟩
      rw [show (k + 1) * Bm = k * Bm + Bm by rw [Nat.add_mul, Nat.one_mul], fo_add, hidx k]
      generalize hst : fo (rF T R) (rV T wo) (x * ((T 0 1 + 1) * Bm)) (k * Bm) st0 = st at hp
      have hlast : dp T (c + 1) (x * (T 0 1 + 1) + k) c = k := dp_last (by omega)
      have hpre : ∀ j, j < c → dp T (c + 1) (x * (T 0 1 + 1) + k) j = dp T c x j := fun j hj => dp_pre (by omega) hj
      have hpre' : ∀ j, j < c → dp T c x j = dp T (c + 1) (x * (T 0 1 + 1) + k) j := fun j hj => (hpre j hj).symm
      have hskip : ¬ hA T R (ld T (dp T (c + 1) (x * (T 0 1 + 1) + k)) (c + 1)) = true → fo (rF T R) (rV T wo) ((x * (T 0 1 + 1) + k) * Bm) Bm st = st := by
        intro h9
        have := sub_skip (wo := wo) (st := st) hT (show c + 1 ≤ T 0 2 by omega) h9
        rw [hBm] at this
        exact this
      have hfe' : hA T R (ld T (dp T (c + 1) (x * (T 0 1 + 1) + k)) c) = true := by rw [ld_congr hpre]; exact hfe
      have hp' : PS T wo y mem c (dp T (c + 1) (x * (T 0 1 + 1) + k)) st := hp.congr hpre
      have hsv : sV T wo (dp T (c + 1) (x * (T 0 1 + 1) + k)) (c + 1) = sV T wo (dp T c x) c + wo c := by
        simp only [sV]
        rw [hlast, if_pos hk2, sV_congr hpre]
      have hrec' := hrec
      have hstep := hA_step (R := R) (u := dp T (c + 1) (x * (T 0 1 + 1) + k)) hT hc (by rw [hlast]; exact hk2) hfe'
      rw [hlast] at hstep
      have hcong : ∀ m9 s9, PS T wo y m9 c (dp T (c + 1) (x * (T 0 1 + 1) + k)) s9 → PS T wo y m9 c (dp T c x) s9 := fun m9 s9 h9 => h9.congr hpre'
      have hrk := hrec' 
      generalize hu : dp T (c + 1) (x * (T 0 1 + 1) + k) = u at *
      simp (disch := omega) only [zk_let, Option.bind_some, cond_true, cond_false, if_true, if_false, zbF, zbT, within_in, jn9, k0, k1, k2, k3, k4, k5, k6, k7, k8, k9, k10, k12, k16, k17, k20, k29, k30, k31, k32, k36, k40, k41, k42, k48, k57, k59, k60, k64, k98, k99, k100, k112, k128, k200, k255, k256, k378, k420, k999, k1000000, jN_add, jN_mul, jN_clamp, jN_inbT, Bool.false_eq_true, Bool.true_eq_false, jN_le, both_spec hT hS hsm hk2, (hxm.2.2.2.2.2 c hc).1]
      rw [if_neg (by omega)]
      by_cases hb : oB R (2 * k) = false ∧ oB R (2 * k + 1) = false
      · rw [hb.1, hb.2]
        simp only [Bool.or_false, Bool.not_false, Bool.true_eq_false, if_false]
        have l1 := ld_le (u := u) hT (show c ≤ T 0 2 by omega) k
        have w1 := t6 c hc
        obtain ⟨a, b, e3, hl⟩ := addP_spec (w := jN (T 7 c)) (m := ld T u c k + T 7 c) hT hxm hp'.1 hk2 (jN_add _ _) (by omega) (by omega)
        have hin := ld_in (T := T) (u := u) (k := c) (by rw [hlast]; exact hk2)
        rw [hlast] at hin
        rw [hin] at hl
        have hfr1 : zFx y (zk_row (zk_row mem 32 a) 33 b) := (hfr.row (by omega)).row (by omega)
        have hxm1 := hfr1.tx hx
        have hld1 : zLd T (ld T u (c + 1)) ((zk_row (zk_row mem 32 a) 33 b).1 32) ((zk_row (zk_row mem 32 a) 33 b).1 33) := hl
        have hl9 : ∀ p, p < T 0 1 → ld T u (c + 1) p < 1000 := fun p _ => by have := ld_le (u := u) hT (show c + 1 ≤ T 0 2 by omega) p; omega
        have hfit := fitsP_spec hT hxm1 hld1 hl9 hk2
        rw [e3]
        simp only [Option.bind_some, hfit]
        by_cases cf : fit T (ld T u (c + 1)) k = true
        · rw [cf]
          simp only [Bool.true_eq_false, if_false]
          have hgood := hstep.mpr ⟨hb, cf⟩
          have hput : PS T wo y (zk_u (zk_row (zk_row mem 32 a) 33 b) 36 c (jN k)) (c + 1) u st := by
            have := hp'.2.rows (a := a) (b := b)
            have h2 := this.put
            rw [hlast, show zOn T k = jN k from if_pos hk2] at h2
            refine ⟨?_, h2⟩
            rw [zk_u_off (by omega), zk_u_off (by omega)]; exact hld1
          have h34 := hput.2.2.2.1 c hc
          obtain ⟨mem3, e4, hp3⟩ := hrec (zk_u (zk_row (zk_row mem 32 a) 33 b) 36 c (jN k)) (x * (T 0 1 + 1) + k) st (by rw [hu]; exact hgood) (by rw [hu]; exact hput)
          rw [hu] at e4 hp3
          rw [hsv, ← iI_add] at e4
          have hxm3 := hp3.2.1.tx hx
          obtain ⟨a', b', e5, hl5⟩ := backP (u := u) hT hxm3 hc (by rw [hlast]; exact hk2) hp3.1
          rw [hlast] at e5
          simp only [zk_let, h34, e4, Option.bind_some, (hxm3.2.2.2.2.2 c hc).1, e5]
          exact ⟨(zk_row (zk_row mem3 32 a') 33 b', jN (k + 1)), rfl, rfl, hcong _ _ ⟨hl5, (hp3.2.down (by omega)).rows⟩⟩
        · have cf' : fit T (ld T u (c + 1)) k = false := by simpa using cf
          rw [cf']
          simp only [if_true]
          obtain ⟨a', b', e5, hl5⟩ := backP (u := u) hT hxm1 hc (by rw [hlast]; exact hk2) hld1
          rw [hlast, zk_row_abab] at e5
          simp only [Option.bind_some, (hxm1.2.2.2.2.2 c hc).1, e5]
          refine ⟨(zk_row (zk_row mem 32 a') 33 b', jN (k + 1)), rfl, rfl, hcong _ _ ⟨hl5, ?_⟩⟩
          rw [hskip (fun h9 => cf (hstep.mp h9).2)]
          exact hp'.2.rows
      · have hb' : (!(oB R (2 * k) || oB R (2 * k + 1))) = false := by
          cases e1 : oB R (2 * k) <;> cases e2 : oB R (2 * k + 1) <;> simp_all
        rw [hb']
        simp only [if_true, Option.bind_some]
        refine ⟨(mem, jN (k + 1)), rfl, rfl, ?_⟩
        rw [hskip (fun h9 => hb (hstep.mp h9).1)]
        exact hp) 500 (mem0, jN 0) ⟨rfl, by rw [Nat.zero_mul]; exact hps⟩ (by omega)
  exact ⟨q, e1, e2⟩
theorem placeX {T R : Nat → Nat → Nat} {wo : Nat → Int} {y : zkM} (hT : zTb T) (hx : zTx T y.1) (hS : zEb T R) (sx : zSx T R (y.1 5)) (hw : wOk T wo) : ∀ n c x mem st, c ≤ T 0 2 → T 0 2 - c < n → hA T R (ld T (dp T c x) c) = true → PS T wo y mem c (dp T c x) st → ∃ mem', fPlanner_placeFrom n mem (jN c) (iI (sV T wo (dp T c x) c)) = some mem' ∧ PS T wo y mem' c (dp T c x) (fo (rF T R) (rV T wo) (x * (T 0 1 + 1) ^ (T 0 2 - c)) ((T 0 1 + 1) ^ (T 0 2 - c)) st) := by
  obtain ⟨t1, t2, t3, t4, t5, t6⟩ := id hT
  intro n
  induction n with
  | zero => intro c x mem st h1 h2; omega
  | succ n ih =>
    intro c x mem st hc hn hfe hps
    have hxm := hps.2.1.tx hx
    have h35 := hps.2.2.2.2.1 c hc
    have h30 := hps.2.2.2.2.2.1
    have b1 := hps.2.2.2.2.2.2.1
    have b2 := hps.2.2.2.2.2.2.2.1
    have sb := sV_b (u := dp T c x) hw hc
    have hb := hpN_b (T := T) (wo := wo) hw (show T 0 2 - c ≤ T 0 2 by omega)
    simp only [fPlanner_placeFrom]
    simp (disch := omega) only [zk_let, Option.bind_some, cond_true, cond_false, if_true, if_false, zbF, zbT, within_in, jn9, k0, k1, k2, k3, k4, k5, k6, k7, k8, k9, k10, k12, k16, k17, k20, k29, k30, k31, k32, k36, k40, k41, k42, k48, k57, k59, k60, k64, k98, k99, k100, k112, k128, k200, k255, k256, k378, k420, k999, k1000000, jN_add, jN_mul, jN_clamp, jN_inbT, Bool.false_eq_true, Bool.true_eq_false, hxm.2.2.1, jN_lt, h35, h30, iI_add]
    rw [if_neg (by omega), show hp T wo c = hpN T wo (T 0 2 - c) from rfl]
    simp (disch := omega) only [iI_lt]
    by_cases cp : st.1 < sV T wo (dp T c x) c + hpN T wo (T 0 2 - c)
    · rw [if_pos cp]
      simp (disch := omega) only [jN_eq]
      by_cases ce : c = T 0 2
      · subst ce
        rw [if_pos rfl]
        refine ⟨_, rfl, ?_, ?_⟩
        · exact hps.1
        · have h0 : hpN T wo (T 0 2 - T 0 2) = 0 := by rw [Nat.sub_self]; rfl
          rw [h0] at cp
          have e9 : fo (rF T R) (rV T wo) (x * (T 0 1 + 1) ^ (T 0 2 - T 0 2)) ((T 0 1 + 1) ^ (T 0 2 - T 0 2)) st = (sV T wo (dp T (T 0 2) x) (T 0 2), x) := by
            rw [Nat.sub_self, Nat.pow_zero, Nat.mul_one]
            show stp (rF T R) (rV T wo) st (x + 0) = _
            rw [Nat.add_zero]
            exact if_pos ⟨hfe, by show st.1 < sV T wo (dp T (T 0 2) x) (T 0 2); omega⟩
          rw [e9]
          have hsb := sV_b (u := dp T (T 0 2) x) hw (Nat.le_refl _)
          refine ⟨?_, ?_, ?_, ?_, ?_, ?_, ?_, ?_⟩
          · rw [zk_cp_row, zk_u_row]
            exact (hps.2.1.row (by omega)).row (by omega)
          · intro j hj
            rw [zk_cp_row, zk_row_off (by omega), zk_u_off (by omega)]
            exact hps.2.2.1 j hj
          · intro j hj
            rw [zk_cp_row, zk_row_off (by omega), zk_u_off (by omega)]
            exact hps.2.2.2.1 j hj
          · intro j hj
            rw [zk_cp_row, zk_row_off (by omega), zk_u_off (by omega)]
            exact hps.2.2.2.2.1 j hj
          · rw [zk_cp_row, zk_row_off (by omega), zk_u_at]
          · show -1 ≤ sV T wo (dp T (T 0 2) x) (T 0 2); omega
          · show sV T wo (dp T (T 0 2) x) (T 0 2) < 1000; omega
          · intro _ j hj
            rw [zk_cp_row, zk_row_on, if_pos (by omega), zk_u_off (by omega)]
            exact hps.2.2.1 j hj
      · rw [if_neg ce]
        have hc2 : c < T 0 2 := by omega
        have hrec : ∀ mem x st, hA T R (ld T (dp T (c + 1) x) (c + 1)) = true → PS T wo y mem (c + 1) (dp T (c + 1) x) st → ∃ mem', fPlanner_placeFrom n mem (jN (c + 1)) (iI (sV T wo (dp T (c + 1) x) (c + 1))) = some mem' ∧ PS T wo y mem' (c + 1) (dp T (c + 1) x) (fo (rF T R) (rV T wo) (x * (T 0 1 + 1) ^ (T 0 2 - (c + 1))) ((T 0 1 + 1) ^ (T 0 2 - (c + 1))) st) := fun mem x st h1 h2 => ih (c + 1) x mem st (by omega) (by omega) h1 h2
        obtain ⟨mem1, e1, hp1⟩ := place57 hT hx hS sx hc2 hfe hps hrec
        rw [e1]
        simp only [Option.bind_some]
        have hlast : dp T (c + 1) (x * (T 0 1 + 1) + T 0 1) c = T 0 1 := dp_last (by omega)
        have hpre : ∀ j, j < c → dp T (c + 1) (x * (T 0 1 + 1) + T 0 1) j = dp T c x j := fun j hj => dp_pre (by omega) hj
        have hld : ld T (dp T (c + 1) (x * (T 0 1 + 1) + T 0 1)) (c + 1) = ld T (dp T c x) c := by
          rw [ld_out (by rw [hlast]; omega), ld_congr hpre]
        have hsv : sV T wo (dp T (c + 1) (x * (T 0 1 + 1) + T 0 1)) (c + 1) = sV T wo (dp T c x) c := by
          simp only [sV]
          rw [hlast, if_neg (by omega), sV_congr hpre]; omega
        have hput := (hp1.congr hpre).2.put
        rw [hlast, show zOn T (T 0 1) = jNo from if_neg (by omega)] at hput
        obtain ⟨mem2, e2, hp2⟩ := hrec (zk_u mem1 36 c jNo) (x * (T 0 1 + 1) + T 0 1) _ (by rw [hld]; exact hfe) ⟨by rw [hld, zk_u_off (by omega), zk_u_off (by omega)]; exact hp1.1, hput⟩
        rw [hsv] at e2
        simp only [zk_let, e2, Option.bind_some]
        refine ⟨mem2, by rw [jN_inbT (by omega) (by omega)]; rfl, ?_⟩
        have hBn : (T 0 1 + 1) ^ (T 0 2 - c) = T 0 1 * (T 0 1 + 1) ^ (T 0 2 - (c + 1)) + (T 0 1 + 1) ^ (T 0 2 - (c + 1)) := by
          rw [show T 0 2 - c = (T 0 2 - (c + 1)) + 1 by omega, Nat.pow_succ, Nat.mul_comm, Nat.add_mul, Nat.one_mul]
        have hidx : (x * (T 0 1 + 1) + T 0 1) * (T 0 1 + 1) ^ (T 0 2 - (c + 1)) = x * (T 0 1 + 1) ^ (T 0 2 - c) + T 0 1 * (T 0 1 + 1) ^ (T 0 2 - (c + 1)) := by
          rw [Nat.add_mul, Nat.mul_assoc, show T 0 2 - c = (T 0 2 - (c + 1)) + 1 by omega, Nat.pow_succ, Nat.mul_comm (T 0 1 + 1)]
        rw [hidx] at hp2
        have hfin : PS T wo y mem2 c (dp T c x) (fo (rF T R) (rV T wo) (x * (T 0 1 + 1) ^ (T 0 2 - c)) (T 0 1 * (T 0 1 + 1) ^ (T 0 2 - (c + 1)) + (T 0 1 + 1) ^ (T 0 2 - (c + 1))) st) := by
          rw [fo_add]
          refine ⟨by rw [← hld]; exact hp2.1, (hp2.2.down (by omega)).congr (fun j hj => (hpre j hj).symm)⟩
        rw [← hBn] at hfin
        exact hfin
    · rw [if_neg cp]
      refine ⟨mem, rfl, ?_⟩
      rw [sub_prune hc (by unfold hp; omega)]
      exact hps
