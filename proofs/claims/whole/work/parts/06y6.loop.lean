/-! every ITEM; the whole text -/
theorem other_item {L : Nat → Nat} {N s tk v : Nat} {T : Nat → Nat → Nat} {y z mem zem : zkM} (h9 : tk = 1 ∨ tk = 2 ∨ tk = 59) (P : Ph L N T y z mem zem s tk v) : Fail N y z mem zem := by
  obtain ⟨hc, hm, hX, hM, h20, -, h3, h4, -, h17, h18, -, h19, hsN, -, -⟩ := id P
  have hroom : fTree_hasRoomFor mem (jN tk) = false := by
    unfold fTree_hasRoomFor
    rw [if_neg (by rcases h9 with h | h | h <;> (subst h; decide)), if_neg (by rcases h9 with h | h | h <;> (subst h; decide)), if_neg (by rcases h9 with h | h | h <;> (subst h; decide))]
  have hx0 : fScript_readItem mem = some (false, mem) := by
    unfold fScript_readItem
    simp only [zk_let, h4, hroom]
    rw [if_pos (by decide)]
  have hm0 : fMd_readItem zem = some (zk_u zem 0 20 (jN 1)) := by
    unfold fMd_readItem
    rw [h18, k1, if_neg (show ¬ jN (mk tk) = jN 1 by rcases h9 with h | h | h <;> (subst h; decide))]
    simp only [zk_let]
    rw [if_neg (by decide), if_neg (by decide), if_neg (by decide)]
  exact mkFail P hx0 hm0 (hm.f (by omega)) (by rw [zk_u_ne (by omega)]) zk_u_at
theorem any_item {L : Nat → Nat} {N s tk v : Nat} {T : Nat → Nat → Nat} {y z mem zem : zkM} (ht : Tx L N y z) (hB : ToB T) (P : Ph L N T y z mem zem s tk v) (h0 : tk ≠ 0) : Fail N y z mem zem ∨ Good L N T y z mem zem := by
  have htks := P.2.2.2.2.2.2.2.2.2.2.2.2.2.2.1
  rcases htks with h | h | h | h | h | h | h
  · exact absurd h h0
  · exact Or.inl (other_item (by omega) P)
  · exact Or.inl (other_item (by omega) P)
  · exact Or.inl (other_item (by omega) P)
  · subst h; exact bough_item ht hB P
  · subst h; exact child_item ht hB P
  · subst h; exact plank_item ht hB P
def Res (N : Nat) (y z : zkM) (o1 : Option ((Int32 × zkM) ⊕ (Int32 × zkM))) (o2 : Option (Int32 × zkM)) : Prop :=
  (∃ mem' zem' x s, o1 = some (.inl (-jN 10 - jN s, mem')) ∧ o2 = some (x, zem') ∧ zFc y mem' ∧ zFm z zem' ∧ zem'.1 0 17 = jN s ∧ zem'.1 0 20 = jN 1 ∧ s ≤ N) ∨
  (∃ mem' zem' T' k, o1 = some (.inr (jN k, mem')) ∧ o2 = some (jN k, zem') ∧ zFc y mem' ∧ zFm z zem' ∧ ToB T' ∧ ToX T' mem' ∧ ToM T' zem' ∧ zem'.1 0 20 = jN 0 ∧ k ≤ 19)
theorem parse {L : Nat → Nat} {N : Nat} {y z : zkM} (ht : Tx L N y z) : ∀ d n n' (T : Nat → Nat → Nat) mem zem s tk v, ToB T → Ph L N T y z mem zem s tk v → T 0 0 + T 0 1 + T 0 2 + d = 19 → d < n → d + 1 < n' → Res N y z (fScript_readInto_L15 n mem (jN (T 0 0 + T 0 1 + T 0 2))) (fMd_tree_L31 n' zem (jN (T 0 0 + T 0 1 + T 0 2))) := by
  intro d
  induction d with
  | zero =>
    intro n n' T mem zem s tk v hB P hd hn hn'
    obtain ⟨n, rfl⟩ : ∃ m, n = m + 1 := ⟨n - 1, by omega⟩
    obtain ⟨n', rfl⟩ : ∃ m, n' = m + 2 := ⟨n' - 2, by omega⟩
    obtain ⟨hc, hm, hX, hM, h20, -, h3, h4, -, h17, h18, -, h19, hsN, htks, -⟩ := id P
    by_cases c : tk = 0
    · right
      refine ⟨mem, zem, T, T 0 0 + T 0 1 + T 0 2, ?_, ?_, hc, hm, hB, hX, hM, h20, by omega⟩
      · simp only [fScript_readInto_L15]
        rw [h4, c, k0, if_pos rfl]
      · simp only [fMd_tree_L31]
        rw [h18, c, k0, if_pos (by decide)]
    · rcases any_item ht hB P c with ⟨mem', zem', s', e1, e2, e3, e4, e5, e6, e7, e8⟩ | ⟨mem', mem'', zem', T', s', tk', v', e1, e2, e3, hB', P', hs⟩
      · left
        refine ⟨mem', zem', jN (T 0 0 + T 0 1 + T 0 2 + 1), s', ?_, ?_, e3, e4, e6, e7, e8⟩
        · simp only [fScript_readInto_L15, e1]
          rw [h4, k0, if_neg (by rw [jN_eq (by omega) (by omega)]; exact c), k200, if_neg (by rw [jN_le (by omega) (by omega)]; omega)]
          simp only [Option.bind_some, e5]
          rw [if_pos (by decide), k10]
        · simp only [fMd_tree_L31, e2]
          have hmk : ¬ jN (mk tk) = jN 0 := by rcases htks with h | h | h | h | h | h | h <;> first | exact absurd h c | (subst h; decide)
          rw [h18, h20, k0, if_neg hmk, if_pos rfl]
          simp only [Option.bind_some, e7]
          rw [if_neg (show ¬ jN 1 = jN 0 by decide), k1, jN_add]
          split <;> rfl
      · exfalso
        obtain ⟨⟨b1, b2, b3, -⟩, -⟩ := hB'
        omega
  | succ d ih =>
    intro n n' T mem zem s tk v hB P hd hn hn'
    obtain ⟨n, rfl⟩ : ∃ m, n = m + 1 := ⟨n - 1, by omega⟩
    obtain ⟨n', rfl⟩ : ∃ m, n' = m + 2 := ⟨n' - 2, by omega⟩
    obtain ⟨hc, hm, hX, hM, h20, -, h3, h4, -, h17, h18, -, h19, hsN, htks, -⟩ := id P
    by_cases c : tk = 0
    · right
      refine ⟨mem, zem, T, T 0 0 + T 0 1 + T 0 2, ?_, ?_, hc, hm, hB, hX, hM, h20, by omega⟩
      · simp only [fScript_readInto_L15]
        rw [h4, c, k0, if_pos rfl]
      · simp only [fMd_tree_L31]
        rw [h18, c, k0, if_pos (by decide)]
    · have hmk : ¬ jN (mk tk) = jN 0 := by rcases htks with h | h | h | h | h | h | h <;> first | exact absurd h c | (subst h; decide)
      rcases any_item ht hB P c with ⟨mem', zem', s', e1, e2, e3, e4, e5, e6, e7, e8⟩ | ⟨mem', mem'', zem', T', s', tk', v', e1, e2, e3, hB', P', hs⟩
      · left
        refine ⟨mem', zem', jN (T 0 0 + T 0 1 + T 0 2 + 1), s', ?_, ?_, e3, e4, e6, e7, e8⟩
        · simp only [fScript_readInto_L15, e1]
          rw [h4, k0, if_neg (by rw [jN_eq (by omega) (by omega)]; exact c), k200, if_neg (by rw [jN_le (by omega) (by omega)]; omega)]
          simp only [Option.bind_some, e5]
          rw [if_pos (by decide), k10]
        · simp only [fMd_tree_L31, e2]
          rw [h18, h20, k0, if_neg hmk, if_pos rfl]
          simp only [Option.bind_some, e7]
          rw [if_neg (show ¬ jN 1 = jN 0 by decide), k1, jN_add]
          split <;> rfl
      · have key := ih n (n' + 1) T' mem'' zem' s' tk' v' hB' P' (by omega) (by omega) (by omega)
        have x1 : fScript_readInto_L15 (n + 1) mem (jN (T 0 0 + T 0 1 + T 0 2)) = fScript_readInto_L15 n mem'' (jN (T' 0 0 + T' 0 1 + T' 0 2)) := by
          simp only [fScript_readInto_L15, e1]
          rw [h4, k0, if_neg (by rw [jN_eq (by omega) (by omega)]; exact c), k200, if_neg (by rw [jN_le (by omega) (by omega)]; omega)]
          simp only [Option.bind_some]
          rw [if_neg (by decide), e2, k1, jN_add, hs]; rfl
        have x2 : fMd_tree_L31 (n' + 2) zem (jN (T 0 0 + T 0 1 + T 0 2)) = fMd_tree_L31 (n' + 1) zem' (jN (T' 0 0 + T' 0 1 + T' 0 2)) := by
          rw [show n' + 2 = (n' + 1) + 1 by omega]
          rw [fMd_tree_L31]
          rw [h18, h20, k0, if_neg hmk, if_pos rfl, e3, k1, jN_add, hs]; rfl
        rw [x1, x2]
        exact key
def T00 : Nat → Nat → Nat := fun _ _ => 0
theorem begun {L : Nat → Nat} {N : Nat} {y z : zkM} (ht : Tx L N y z) : ∃ mem zem s tk v, fScript_step (zk_u (zk_u (zk_u (zk_u y 55 0 (jN 0)) 55 1 (jN 0)) 55 2 (jN 0)) 1 2 (jN 0)) = some mem ∧ fMd_next (zk_u (zk_u (zk_u (zk_u (zk_u z 0 16 (jN 0)) 0 20 (jN 0)) 0 21 (jN 0)) 0 23 (jN 0)) 0 25 (jN 0)) = some zem ∧ Ph L N T00 y z mem zem s tk v := by
  have hc : zFc y (zk_u (zk_u (zk_u (zk_u y 55 0 (jN 0)) 55 1 (jN 0)) 55 2 (jN 0)) 1 2 (jN 0)) := by
    have h1 : zFc y (zk_u (zk_u (zk_u y 55 0 (jN 0)) 55 1 (jN 0)) 55 2 (jN 0)) := (((zFc.rf y).u (by omega)).u (by omega)).u (by omega)
    rw [zk_u_row (c := 1)]
    exact h1.row1 (upd_ne (by omega))
  have hm : zFm z (zk_u (zk_u (zk_u (zk_u (zk_u z 0 16 (jN 0)) 0 20 (jN 0)) 0 21 (jN 0)) 0 23 (jN 0)) 0 25 (jN 0)) := (((((zFm.rf z).f (by omega)).f (by omega)).f (by omega)).f (by omega)).f (by omega)
  have hX : ToX T00 (zk_u (zk_u (zk_u (zk_u y 55 0 (jN 0)) 55 1 (jN 0)) 55 2 (jN 0)) 1 2 (jN 0)) := by
    refine ⟨?_, ?_, ?_, fun b hb => by unfold T00 at hb; omega, fun b hb => by unfold T00 at hb; omega, fun b hb => by unfold T00 at hb; omega⟩
    · rw [zk_u_off (by omega), zk_u_ne (by omega), zk_u_ne (by omega), zk_u_at]; rfl
    · rw [zk_u_off (by omega), zk_u_ne (by omega), zk_u_at]; rfl
    · rw [zk_u_off (by omega), zk_u_at]; rfl
  have hM : ToM T00 (zk_u (zk_u (zk_u (zk_u (zk_u z 0 16 (jN 0)) 0 20 (jN 0)) 0 21 (jN 0)) 0 23 (jN 0)) 0 25 (jN 0)) := by
    refine ⟨?_, ?_, ?_, fun b hb => by unfold T00 at hb; omega, fun b hb => by unfold T00 at hb; omega, fun b hb => by unfold T00 at hb; omega⟩
    · rw [zk_u_ne (by omega), zk_u_ne (by omega), zk_u_at]; rfl
    · rw [zk_u_ne (by omega), zk_u_at]; rfl
    · rw [zk_u_at]; rfl
  obtain ⟨r, t, s, tk, v, f1, g1, P, -⟩ := adv (e := 0) ht hc hm hX hM (by rw [zk_u_ne (by omega), zk_u_ne (by omega), zk_u_ne (by omega), zk_u_at]) (by omega) (by rw [zk_u_at]) (by rw [zk_u_ne (by omega), zk_u_ne (by omega), zk_u_ne (by omega), zk_u_ne (by omega), zk_u_at])
  exact ⟨_, _, s, tk, v, f1, g1, P⟩
theorem B00 : ToB T00 := by
  refine ⟨⟨by decide, by decide, by decide, fun b hb => by unfold T00 at hb; omega, fun b hb => by unfold T00 at hb; omega, fun b hb => by unfold T00 at hb; omega⟩, fun b hb => by unfold T00 at hb; omega⟩
theorem zFc.kx {y mem : zkM} (h : zFc y mem) : zKx y mem := by
  refine ⟨fun k hk => h.1 k (fun e => by subst e; cases hk) (fun e => by subst e; cases hk) ?_, h.2.1, by rw [h.1 9 (by omega) (by omega) (by omega)], by rw [h.1 9 (by omega) (by omega) (by omega)], by rw [h.1 26 (by omega) (by omega) (by omega)], by rw [h.2.2]⟩
  by_cases c : k < 55
  · exact c
  · exfalso
    unfold zRx at hk
    have e1 : Nat.blt k 21 = false := by cases e : Nat.blt k 21; rfl; have := Nat.le_of_ble_eq_true e; omega
    have e2 : Nat.blt k 26 = false := by cases e : Nat.blt k 26; rfl; have := Nat.le_of_ble_eq_true e; omega
    have e3 : Nat.blt k 30 = false := by cases e : Nat.blt k 30; rfl; have := Nat.le_of_ble_eq_true e; omega
    have e4 : Nat.blt k 52 = false := by cases e : Nat.blt k 52; rfl; have := Nat.le_of_ble_eq_true e; omega
    rw [e1, e2, e3, e4] at hk
    simp at hk
    omega
theorem zFm.km {z zem : zkM} (h : zFm z zem) : zKm z zem := by
  refine ⟨fun k hk => ?_, h.2.1 0 (by omega), h.2.1 2 (by omega), h.2.1 4 (by omega), h.2.1 8 (by omega), h.2.1 11 (by omega), h.2.1 15 (by omega), by rw [h.2.2]⟩
  unfold zRm at hk
  rw [Bool.and_eq_true] at hk
  have h1 := Nat.le_of_ble_eq_true hk.1
  have h2 := Nat.le_of_ble_eq_true hk.2
  exact h.1 k (by omega) (by omega) (by omega) (by omega)
/-! the class begins anew -/
theorem begin2 {m : zkM} : ∃ r, fScene_begin_L2 500 m (jN 0) = some (zk_row m 5 r) ∧ ∀ c, c < 5 → r c = jNo := by
  obtain ⟨q, h1, r, h2, h3⟩ := zl_loop (fun n (s : zkM × Int32) => fScene_begin_L2 n s.1 s.2) (fun k s => s.2 = jN k ∧ ∃ r, s.1 = zk_row m 5 r ∧ ∀ c, c < k → r c = jNo) 5 (fun q => ∃ r, q = zk_row m 5 r ∧ ∀ c, c < 5 → r c = jNo) (by
    rintro n k ⟨m9, x⟩ hk ⟨e1, r, e2, hr⟩
    dsimp only at e1 e2
    subst e1; subst e2
    simp only [fScene_begin_L2]
    by_cases c : k = 5
    · left
      refine ⟨_, ?_, r, rfl, c ▸ hr⟩
      simp (disch := omega) only [zk_let, Option.bind_some, cond_true, cond_false, if_true, if_false, zbF, zbT, within_in, jn9, k0, k1, k2, k3, k4, k5, k6, k7, k8, k9, k10, k12, k16, k17, k20, k29, k30, k31, k32, k36, k40, k41, k42, k48, k57, k59, k60, k64, k98, k99, k100, k112, k128, k200, k255, k256, k378, k420, k999, k1000000, jN_add, jN_mul, jN_clamp, jN_inbT, Bool.false_eq_true, Bool.true_eq_false, jN_le]
      rw [if_pos (by omega)]
    · right
      refine ⟨by omega, (zk_row m 5 (upd r k jNo), jN (k + 1)), ?_, rfl, _, rfl, fun j hj => ?_⟩
      · simp (disch := omega) only [zk_let, Option.bind_some, cond_true, cond_false, if_true, if_false, zbF, zbT, within_in, jn9, k0, k1, k2, k3, k4, k5, k6, k7, k8, k9, k10, k12, k16, k17, k20, k29, k30, k31, k32, k36, k40, k41, k42, k48, k57, k59, k60, k64, k98, k99, k100, k112, k128, k200, k255, k256, k378, k420, k999, k1000000, jN_add, jN_mul, jN_clamp, jN_inbT, Bool.false_eq_true, Bool.true_eq_false, jN_le, zk_u_row, zk_row_row, zk_row_on]
        rw [if_neg (by omega)]
      · by_cases c2 : j = k
        · rw [c2, upd_same]
        · rw [upd_ne c2]; exact hr j (by omega)) 500 (m, jN 0) ⟨rfl, m.1 5, zk_row_self.symm, fun j h => by omega⟩ (by omega)
  subst h2
  exact ⟨r, h1, h3⟩
theorem begin23 {m : zkM} {r0 : Nat → Int32} (h0 : ∀ c, c < 5 → r0 c = jNo) : ∃ r, fScene_begin_L23 500 (zk_row m 5 r0) (jN 0) = some (zk_row m 5 r) ∧ (∀ c, c < 5 → r c = jNo) ∧ ∀ e, e < 12 → r (5 + e) = m.1 52 e ∧ r (17 + e) = jN 0 ∧ r (29 + e) = jN 0 := by
  obtain ⟨q, h1, r, h2, h3⟩ := zl_loop (fun n (s : zkM × Int32) => fScene_begin_L23 n s.1 s.2) (fun k s => s.2 = jN k ∧ ∃ r, s.1 = zk_row m 5 r ∧ (∀ c, c < 5 → r c = jNo) ∧ ∀ e, e < k → r (5 + e) = m.1 52 e ∧ r (17 + e) = jN 0 ∧ r (29 + e) = jN 0) 12 (fun q => ∃ r, q = zk_row m 5 r ∧ (∀ c, c < 5 → r c = jNo) ∧ ∀ e, e < 12 → r (5 + e) = m.1 52 e ∧ r (17 + e) = jN 0 ∧ r (29 + e) = jN 0) (by
    rintro n k ⟨m9, x⟩ hk ⟨e1, r, e2, hr, hr2⟩
    dsimp only at e1 e2
    subst e1; subst e2
    simp only [fScene_begin_L23, fScene_doAnew, zk_row_off (show (52 : Nat) ≠ 5 by omega)]
    by_cases c : k = 12
    · left
      refine ⟨_, ?_, r, rfl, hr, c ▸ hr2⟩
      simp (disch := omega) only [zk_let, Option.bind_some, cond_true, cond_false, if_true, if_false, zbF, zbT, within_in, jn9, k0, k1, k2, k3, k4, k5, k6, k7, k8, k9, k10, k12, k16, k17, k20, k29, k30, k31, k32, k36, k40, k41, k42, k48, k57, k59, k60, k64, k98, k99, k100, k112, k128, k200, k255, k256, k378, k420, k999, k1000000, jN_add, jN_mul, jN_clamp, jN_inbT, Bool.false_eq_true, Bool.true_eq_false, jN_le]
      rw [if_pos (by omega)]
    · right
      refine ⟨by omega, (zk_row m 5 (upd (upd (upd r (5 + k) (m.1 52 k)) (17 + k) (jN 0)) (29 + k) (jN 0)), jN (k + 1)), ?_, rfl, _, rfl, fun j hj => ?_, fun e he => ?_⟩
      · simp (disch := omega) only [zk_let, Option.bind_some, cond_true, cond_false, if_true, if_false, zbF, zbT, within_in, jn9, k0, k1, k2, k3, k4, k5, k6, k7, k8, k9, k10, k12, k16, k17, k20, k29, k30, k31, k32, k36, k40, k41, k42, k48, k57, k59, k60, k64, k98, k99, k100, k112, k128, k200, k255, k256, k378, k420, k999, k1000000, jN_add, jN_mul, jN_clamp, jN_inbT, Bool.false_eq_true, Bool.true_eq_false, jN_le, zk_u_row, zk_row_row, zk_row_on]
        rw [if_neg (by omega)]
      · rw [upd_ne (by omega), upd_ne (by omega), upd_ne (by omega)]; exact hr j hj
      · by_cases c2 : e = k
        · subst c2
          refine ⟨?_, ?_, ?_⟩
          · rw [upd_ne (by omega), upd_ne (by omega), upd_same]
          · rw [upd_ne (by omega), upd_same]
          · rw [upd_same]
        · rw [upd_ne (by omega), upd_ne (by omega), upd_ne (by omega), upd_ne (by omega), upd_ne (by omega), upd_ne (by omega), upd_ne (by omega), upd_ne (by omega), upd_ne (by omega)]; exact hr2 e (by omega)) 500 (zk_row m 5 r0, jN 0) ⟨rfl, r0, rfl, h0, fun j h => by omega⟩ (by omega)
  subst h2
  exact ⟨r, h1, h3⟩
theorem beginX {m : zkM} : ∃ r, fScene_begin m = some (zk_row m 5 r) ∧ (∀ c, c < 5 → r c = jNo) ∧ (∀ e, e < 12 → r (5 + e) = m.1 52 e ∧ r (17 + e) = jN 0 ∧ r (29 + e) = jN 0) ∧ r 41 = jN 0 := by
  obtain ⟨r0, e1, h0⟩ := begin2 (m := m)
  obtain ⟨r, e2, h1, h2⟩ := begin23 (m := m) h0
  refine ⟨upd r 41 (jN 0), ?_, fun c hc => by rw [upd_ne (by omega)]; exact h1 c hc, fun e he => by rw [upd_ne (by omega), upd_ne (by omega), upd_ne (by omega)]; exact h2 e he, upd_same⟩
  unfold fScene_begin
  rw [k0, e1]
  simp only [Option.bind_some, e2, zk_let]
  simp (disch := omega) only [zk_let, Option.bind_some, cond_true, cond_false, if_true, if_false, zbF, zbT, within_in, jn9, k0, k1, k2, k3, k4, k5, k6, k7, k8, k9, k10, k12, k16, k17, k20, k29, k30, k31, k32, k36, k40, k41, k42, k48, k57, k59, k60, k64, k98, k99, k100, k112, k128, k200, k255, k256, k378, k420, k999, k1000000, jN_add, jN_mul, jN_clamp, jN_inbT, Bool.false_eq_true, Bool.true_eq_false, zk_u_row, zk_row_row, zk_row_on]
theorem loseA {m : zkM} : ∃ r, fAlbum_lose m = some (zk_row m 25 r) ∧ ∀ c, c < 2 → r c = jN 0 := by
  obtain ⟨q, h1, r, h2, h3⟩ := zl_loop (fun n (s : zkM × Int32) => fAlbum_lose_L2 n s.1 s.2) (fun k s => s.2 = jN k ∧ ∃ r, s.1 = zk_row m 25 r ∧ ∀ c, c < k → r c = jN 0) 2 (fun q => ∃ r, q = zk_row m 25 r ∧ ∀ c, c < 2 → r c = jN 0) (by
    rintro n k ⟨m9, x⟩ hk ⟨e1, r, e2, hr⟩
    dsimp only at e1 e2
    subst e1; subst e2
    simp only [fAlbum_lose_L2]
    by_cases c : k = 2
    · left
      refine ⟨_, ?_, r, rfl, c ▸ hr⟩
      simp (disch := omega) only [zk_let, Option.bind_some, cond_true, cond_false, if_true, if_false, zbF, zbT, within_in, jn9, k0, k1, k2, k3, k4, k5, k6, k7, k8, k9, k10, k12, k16, k17, k20, k29, k30, k31, k32, k36, k40, k41, k42, k48, k57, k59, k60, k64, k98, k99, k100, k112, k128, k200, k255, k256, k378, k420, k999, k1000000, jN_add, jN_mul, jN_clamp, jN_inbT, Bool.false_eq_true, Bool.true_eq_false, jN_le]
      rw [if_pos (by omega)]
    · right
      refine ⟨by omega, (zk_row m 25 (upd r k (jN 0)), jN (k + 1)), ?_, rfl, _, rfl, fun j hj => ?_⟩
      · simp (disch := omega) only [zk_let, Option.bind_some, cond_true, cond_false, if_true, if_false, zbF, zbT, within_in, jn9, k0, k1, k2, k3, k4, k5, k6, k7, k8, k9, k10, k12, k16, k17, k20, k29, k30, k31, k32, k36, k40, k41, k42, k48, k57, k59, k60, k64, k98, k99, k100, k112, k128, k200, k255, k256, k378, k420, k999, k1000000, jN_add, jN_mul, jN_clamp, jN_inbT, Bool.false_eq_true, Bool.true_eq_false, jN_le, zk_u_row, zk_row_row, zk_row_on]
        rw [if_neg (by omega)]
      · by_cases c2 : j = k
        · rw [c2, upd_same]
        · rw [upd_ne c2]; exact hr j (by omega)) 500 (m, jN 0) ⟨rfl, m.1 25, zk_row_self.symm, fun j h => by omega⟩ (by omega)
  subst h2
  refine ⟨r, ?_, h3⟩
  unfold fAlbum_lose
  dsimp only at h1
  rw [k0, h1]; rfl
/-! the model takes what was said -/
theorem k24 : (24 : Int32) = jN 24 := by decide
theorem fMd_tree_L96_c {m : zkM} : ∃ r, fMd_tree_L96 500 m (jN 0) = some (zk_row m 4 r) ∧ ∀ i, i < 42 → r i = jN 0 := by
  obtain ⟨q, h1, r, h2, h3⟩ := zl_loop (fun n (s : zkM × Int32) => fMd_tree_L96 n s.1 s.2) (fun k s => s.2 = jN k ∧ ∃ r, s.1 = zk_row m 4 r ∧ ∀ i, i < k → r i = jN 0) 42 (fun q => ∃ r, q = zk_row m 4 r ∧ ∀ i, i < 42 → r i = jN 0) (by
    rintro n k ⟨m9, x⟩ hk ⟨e1, r, e2, hr⟩
    dsimp only at e1 e2
    subst e1; subst e2
    simp only [fMd_tree_L96, zk_row_off (show (4 : Nat) ≠ 5 by omega)]
    by_cases c : k = 42
    · left
      refine ⟨_, ?_, r, rfl, c ▸ hr⟩
      simp (disch := omega) only [zk_let, Option.bind_some, cond_true, cond_false, if_true, if_false, zbF, zbT, within_in, jn9, k0, k1, k2, k3, k4, k5, k6, k7, k8, k9, k10, k12, k16, k17, k20, k29, k30, k31, k32, k36, k40, k41, k42, k48, k57, k59, k60, k64, k98, k99, k100, k112, k128, k200, k255, k256, k378, k420, k999, k1000000, jN_add, jN_mul, jN_clamp, jN_inbT, Bool.false_eq_true, Bool.true_eq_false, k24, jN_le]
      rw [if_pos (by omega)]
    · right
      refine ⟨by omega, (zk_row m 4 (upd r k (jN 0)), jN (k + 1)), ?_, rfl, _, rfl, fun i hi => ?_⟩
      · simp (disch := omega) only [zk_let, Option.bind_some, cond_true, cond_false, if_true, if_false, zbF, zbT, within_in, jn9, k0, k1, k2, k3, k4, k5, k6, k7, k8, k9, k10, k12, k16, k17, k20, k29, k30, k31, k32, k36, k40, k41, k42, k48, k57, k59, k60, k64, k98, k99, k100, k112, k128, k200, k255, k256, k378, k420, k999, k1000000, jN_add, jN_mul, jN_clamp, jN_inbT, Bool.false_eq_true, Bool.true_eq_false, k24, jN_le, zk_u_row, zk_row_row, zk_row_on]
        rw [if_neg (by omega)]
      · by_cases c2 : i = k
        · subst c2; rw [upd_same]
        · rw [upd_ne c2]; exact hr i (by omega)) 500 (m, jN 0) ⟨rfl, m.1 4, zk_row_self.symm, fun i h => by omega⟩ (by omega)
  subst h2
  exact ⟨r, h1, h3⟩
theorem fMd_tree_L117_c {m : zkM} : ∃ r, fMd_tree_L117 500 m (jN 0) = some (zk_row m 1 r) ∧ ∀ i, i < 24 → r i = m.1 10 i := by
  obtain ⟨q, h1, r, h2, h3⟩ := zl_loop (fun n (s : zkM × Int32) => fMd_tree_L117 n s.1 s.2) (fun k s => s.2 = jN k ∧ ∃ r, s.1 = zk_row m 1 r ∧ ∀ i, i < k → r i = m.1 10 i) 24 (fun q => ∃ r, q = zk_row m 1 r ∧ ∀ i, i < 24 → r i = m.1 10 i) (by
    rintro n k ⟨m9, x⟩ hk ⟨e1, r, e2, hr⟩
    dsimp only at e1 e2
    subst e1; subst e2
    simp only [fMd_tree_L117, zk_row_off (show (10 : Nat) ≠ 1 by omega)]
    by_cases c : k = 24
    · left
      refine ⟨_, ?_, r, rfl, c ▸ hr⟩
      simp (disch := omega) only [zk_let, Option.bind_some, cond_true, cond_false, if_true, if_false, zbF, zbT, within_in, jn9, k0, k1, k2, k3, k4, k5, k6, k7, k8, k9, k10, k12, k16, k17, k20, k29, k30, k31, k32, k36, k40, k41, k42, k48, k57, k59, k60, k64, k98, k99, k100, k112, k128, k200, k255, k256, k378, k420, k999, k1000000, jN_add, jN_mul, jN_clamp, jN_inbT, Bool.false_eq_true, Bool.true_eq_false, k24, jN_le]
      rw [if_pos (by omega)]
    · right
      refine ⟨by omega, (zk_row m 1 (upd r k (m.1 10 k)), jN (k + 1)), ?_, rfl, _, rfl, fun i hi => ?_⟩
      · simp (disch := omega) only [zk_let, Option.bind_some, cond_true, cond_false, if_true, if_false, zbF, zbT, within_in, jn9, k0, k1, k2, k3, k4, k5, k6, k7, k8, k9, k10, k12, k16, k17, k20, k29, k30, k31, k32, k36, k40, k41, k42, k48, k57, k59, k60, k64, k98, k99, k100, k112, k128, k200, k255, k256, k378, k420, k999, k1000000, jN_add, jN_mul, jN_clamp, jN_inbT, Bool.false_eq_true, Bool.true_eq_false, k24, jN_le, zk_u_row, zk_row_row, zk_row_on]
        rw [if_neg (by omega)]
      · by_cases c2 : i = k
        · subst c2; rw [upd_same]
        · rw [upd_ne c2]; exact hr i (by omega)) 500 (m, jN 0) ⟨rfl, m.1 1, zk_row_self.symm, fun i h => by omega⟩ (by omega)
  subst h2
  exact ⟨r, h1, h3⟩
theorem fMd_tree_L238_c {m : zkM} : ∃ r, fMd_tree_L238 500 m (jN 0) = some (zk_row m 3 r) ∧ ∀ i, i < 10 → r i = m.1 12 i := by
  obtain ⟨q, h1, r, h2, h3⟩ := zl_loop (fun n (s : zkM × Int32) => fMd_tree_L238 n s.1 s.2) (fun k s => s.2 = jN k ∧ ∃ r, s.1 = zk_row m 3 r ∧ ∀ i, i < k → r i = m.1 12 i) 10 (fun q => ∃ r, q = zk_row m 3 r ∧ ∀ i, i < 10 → r i = m.1 12 i) (by
    rintro n k ⟨m9, x⟩ hk ⟨e1, r, e2, hr⟩
    dsimp only at e1 e2
    subst e1; subst e2
    simp only [fMd_tree_L238, zk_row_off (show (12 : Nat) ≠ 3 by omega)]
    by_cases c : k = 10
    · left
      refine ⟨_, ?_, r, rfl, c ▸ hr⟩
      simp (disch := omega) only [zk_let, Option.bind_some, cond_true, cond_false, if_true, if_false, zbF, zbT, within_in, jn9, k0, k1, k2, k3, k4, k5, k6, k7, k8, k9, k10, k12, k16, k17, k20, k29, k30, k31, k32, k36, k40, k41, k42, k48, k57, k59, k60, k64, k98, k99, k100, k112, k128, k200, k255, k256, k378, k420, k999, k1000000, jN_add, jN_mul, jN_clamp, jN_inbT, Bool.false_eq_true, Bool.true_eq_false, k24, jN_le]
      rw [if_pos (by omega)]
    · right
      refine ⟨by omega, (zk_row m 3 (upd r k (m.1 12 k)), jN (k + 1)), ?_, rfl, _, rfl, fun i hi => ?_⟩
      · simp (disch := omega) only [zk_let, Option.bind_some, cond_true, cond_false, if_true, if_false, zbF, zbT, within_in, jn9, k0, k1, k2, k3, k4, k5, k6, k7, k8, k9, k10, k12, k16, k17, k20, k29, k30, k31, k32, k36, k40, k41, k42, k48, k57, k59, k60, k64, k98, k99, k100, k112, k128, k200, k255, k256, k378, k420, k999, k1000000, jN_add, jN_mul, jN_clamp, jN_inbT, Bool.false_eq_true, Bool.true_eq_false, k24, jN_le, zk_u_row, zk_row_row, zk_row_on]
        rw [if_neg (by omega)]
      · by_cases c2 : i = k
        · subst c2; rw [upd_same]
        · rw [upd_ne c2]; exact hr i (by omega)) 500 (m, jN 0) ⟨rfl, m.1 3, zk_row_self.symm, fun i h => by omega⟩ (by omega)
  subst h2
  exact ⟨r, h1, h3⟩
theorem tree264 {m : zkM} : ∃ r, fMd_tree_L264 500 m (jN 0) = some (zk_row m 4 r) ∧ (∀ c, c < 5 → r (1 + c) = jNo) ∧ ∀ i, i = 0 ∨ 6 ≤ i → r i = m.1 4 i := by
  obtain ⟨q, h1, r, h2, h3⟩ := zl_loop (fun n (s : zkM × Int32) => fMd_tree_L264 n s.1 s.2) (fun k s => s.2 = jN k ∧ ∃ r, s.1 = zk_row m 4 r ∧ (∀ c, c < k → r (1 + c) = jNo) ∧ ∀ i, i = 0 ∨ 6 ≤ i → r i = m.1 4 i) 5 (fun q => ∃ r, q = zk_row m 4 r ∧ (∀ c, c < 5 → r (1 + c) = jNo) ∧ ∀ i, i = 0 ∨ 6 ≤ i → r i = m.1 4 i) (by
    rintro n k ⟨m9, x⟩ hk ⟨e1, r, e2, hr, hr2⟩
    dsimp only at e1 e2
    subst e1; subst e2
    simp only [fMd_tree_L264]
    by_cases c : k = 5
    · left
      refine ⟨_, ?_, r, rfl, c ▸ hr, hr2⟩
      simp (disch := omega) only [zk_let, Option.bind_some, cond_true, cond_false, if_true, if_false, zbF, zbT, within_in, jn9, k0, k1, k2, k3, k4, k5, k6, k7, k8, k9, k10, k12, k16, k17, k20, k29, k30, k31, k32, k36, k40, k41, k42, k48, k57, k59, k60, k64, k98, k99, k100, k112, k128, k200, k255, k256, k378, k420, k999, k1000000, jN_add, jN_mul, jN_clamp, jN_inbT, Bool.false_eq_true, Bool.true_eq_false, jN_le]
      rw [if_pos (by omega)]
    · right
      refine ⟨by omega, (zk_row m 4 (upd r (1 + k) jNo), jN (k + 1)), ?_, rfl, _, rfl, fun j hj => ?_, fun i hi => ?_⟩
      · simp (disch := omega) only [zk_let, Option.bind_some, cond_true, cond_false, if_true, if_false, zbF, zbT, within_in, jn9, k0, k1, k2, k3, k4, k5, k6, k7, k8, k9, k10, k12, k16, k17, k20, k29, k30, k31, k32, k36, k40, k41, k42, k48, k57, k59, k60, k64, k98, k99, k100, k112, k128, k200, k255, k256, k378, k420, k999, k1000000, jN_add, jN_mul, jN_clamp, jN_inbT, Bool.false_eq_true, Bool.true_eq_false, jN_le, zk_u_row, zk_row_row, zk_row_on]
        rw [if_neg (by omega)]
      · by_cases c2 : j = k
        · rw [c2, upd_same]
        · rw [upd_ne (by omega)]; exact hr j (by omega)
      · rw [upd_ne (by omega)]; exact hr2 i hi) 500 (m, jN 0) ⟨rfl, m.1 4, zk_row_self.symm, fun j h => by omega, fun _ _ => rfl⟩ (by omega)
  subst h2
  exact ⟨r, h1, h3⟩
theorem tree153 {m : zkM} {p : Nat} (hp : p < 6) : fMd_tree_L153 500 m (jN p) (jN 0) = some (zk_row m 2 (upd (upd (upd (m.1 2) (3 * p) (m.1 11 (5 * p))) (3 * p + 1) (m.1 11 (5 * p + 1))) (3 * p + 2) (m.1 11 (5 * p + 2)))) := by
  have st : ∀ n k r, k < 3 → fMd_tree_L153 (n + 1) (zk_row m 2 r) (jN p) (jN k) = fMd_tree_L153 n (zk_row m 2 (upd r (3 * p + k) (m.1 11 (5 * p + k)))) (jN p) (jN (k + 1)) := by
    intro n k r hk
    rw [fMd_tree_L153]
    simp only [zk_row_off (show (11 : Nat) ≠ 2 by omega)]
    simp (disch := omega) only [zk_let, Option.bind_some, cond_true, cond_false, if_true, if_false, zbF, zbT, within_in, jn9, k0, k1, k2, k3, k4, k5, k6, k7, k8, k9, k10, k12, k16, k17, k20, k29, k30, k31, k32, k36, k40, k41, k42, k48, k57, k59, k60, k64, k98, k99, k100, k112, k128, k200, k255, k256, k378, k420, k999, k1000000, jN_add, jN_mul, jN_clamp, jN_inbT, Bool.false_eq_true, Bool.true_eq_false, jN_le, zk_u_row, zk_row_row, zk_row_on]
    rw [if_neg (by omega)]
  have en : ∀ n r, fMd_tree_L153 (n + 1) (zk_row m 2 r) (jN p) (jN 3) = some (zk_row m 2 r) := by
    intro n r
    rw [fMd_tree_L153, k3, if_pos (Int32.le_refl _)]
  have := st 499 0 (m.1 2) (by omega)
  rw [zk_row_self] at this
  rw [this, st 498 1 _ (by omega), st 497 2 _ (by omega), en 496]
  rfl
theorem tree143 {T : Nat → Nat → Nat} {m : zkM} (hT : T 0 1 ≤ 6) (hP : m.1 0 2 = jN (T 0 1)) : ∃ a b, fMd_tree_L143 500 m (jN 0) = some (zk_row (zk_row m 2 a) 4 b) ∧ (∀ p, p < T 0 1 → a (3 * p) = m.1 11 (5 * p) ∧ a (3 * p + 1) = m.1 11 (5 * p + 1) ∧ a (3 * p + 2) = m.1 11 (5 * p + 2) ∧ b (6 + 6 * p) = m.1 11 (5 * p + 3) ∧ b (6 + 6 * p + 3) = m.1 11 (5 * p + 4)) ∧ ∀ i, (i < 6 ∨ i % 3 ≠ 0) → b i = m.1 4 i := by
  obtain ⟨q, h1, a, b, h2, h3⟩ := zl_loop (fun n (s : zkM × Int32) => fMd_tree_L143 n s.1 s.2) (fun k s => s.2 = jN k ∧ ∃ a b, s.1 = zk_row (zk_row m 2 a) 4 b ∧ (∀ p, p < k → a (3 * p) = m.1 11 (5 * p) ∧ a (3 * p + 1) = m.1 11 (5 * p + 1) ∧ a (3 * p + 2) = m.1 11 (5 * p + 2) ∧ b (6 + 6 * p) = m.1 11 (5 * p + 3) ∧ b (6 + 6 * p + 3) = m.1 11 (5 * p + 4)) ∧ ∀ i, (i < 6 ∨ i % 3 ≠ 0) → b i = m.1 4 i) (T 0 1) (fun q => ∃ a b, q = zk_row (zk_row m 2 a) 4 b ∧ (∀ p, p < T 0 1 → a (3 * p) = m.1 11 (5 * p) ∧ a (3 * p + 1) = m.1 11 (5 * p + 1) ∧ a (3 * p + 2) = m.1 11 (5 * p + 2) ∧ b (6 + 6 * p) = m.1 11 (5 * p + 3) ∧ b (6 + 6 * p + 3) = m.1 11 (5 * p + 4)) ∧ ∀ i, (i < 6 ∨ i % 3 ≠ 0) → b i = m.1 4 i) (by
    rintro n k ⟨m9, x⟩ hk ⟨e1, a, b, e2, hr, hr2⟩
    dsimp only at e1 e2
    subst e1; subst e2
    have hP' : (zk_row (zk_row m 2 a) 4 b).1 0 2 = jN (T 0 1) := by rw [zk_row_off (by omega), zk_row_off (by omega)]; exact hP
    simp only [fMd_tree_L143, hP']
    by_cases c : k = T 0 1
    · left
      refine ⟨_, ?_, a, b, rfl, c ▸ hr, hr2⟩
      simp (disch := omega) only [zk_let, Option.bind_some, cond_true, cond_false, if_true, if_false, zbF, zbT, within_in, jn9, k0, k1, k2, k3, k4, k5, k6, k7, k8, k9, k10, k12, k16, k17, k20, k29, k30, k31, k32, k36, k40, k41, k42, k48, k57, k59, k60, k64, k98, k99, k100, k112, k128, k200, k255, k256, k378, k420, k999, k1000000, jN_add, jN_mul, jN_clamp, jN_inbT, Bool.false_eq_true, Bool.true_eq_false, jN_le]
      rw [if_pos (by omega)]
    · right
      have e153 := tree153 (m := zk_row (zk_row m 2 a) 4 b) (show k < 6 by omega)
      have e2' : (zk_row (zk_row m 2 a) 4 b).1 2 = a := by rw [zk_row_off (by omega), zk_row_on]
      have e11 : (zk_row (zk_row m 2 a) 4 b).1 11 = m.1 11 := by rw [zk_row_off (by omega), zk_row_off (by omega)]
      rw [e2', e11] at e153
      have ecm : ∀ C, zk_row (zk_row (zk_row m 2 a) 4 b) 2 C = zk_row (zk_row m 2 C) 4 b := by
        intro C
        rw [zk_row_aba, zk_row_comm (by omega)]
      rw [ecm] at e153
      generalize hA : upd (upd (upd a (3 * k) (m.1 11 (5 * k))) (3 * k + 1) (m.1 11 (5 * k + 1))) (3 * k + 2) (m.1 11 (5 * k + 2)) = A at e153
      have f11 : ∀ B, (zk_row (zk_row m 2 A) 4 B).1 11 = m.1 11 := fun B => by rw [zk_row_off (by omega), zk_row_off (by omega)]
      refine ⟨by omega, (zk_row (zk_row m 2 A) 4 (upd (upd b (6 + 6 * k) (m.1 11 (5 * k + 3))) (6 + 6 * k + 3) (m.1 11 (5 * k + 4))), jN (k + 1)), ?_, rfl, _, _, rfl, fun p hp => ?_, fun i hi => ?_⟩
      · rw [k0, e153]
        simp only [Option.bind_some]
        simp (disch := omega) only [zk_let, Option.bind_some, cond_true, cond_false, if_true, if_false, zbF, zbT, within_in, jn9, k0, k1, k2, k3, k4, k5, k6, k7, k8, k9, k10, k12, k16, k17, k20, k29, k30, k31, k32, k36, k40, k41, k42, k48, k57, k59, k60, k64, k98, k99, k100, k112, k128, k200, k255, k256, k378, k420, k999, k1000000, jN_add, jN_mul, jN_clamp, jN_inbT, Bool.false_eq_true, Bool.true_eq_false, jN_le, zk_u_row, zk_row_row, zk_row_on, f11]
        rw [if_neg (by omega)]
      · by_cases c2 : p = k
        · subst c2
          rw [← hA]
          refine ⟨?_, ?_, ?_, ?_, ?_⟩
          · rw [upd_ne (by omega), upd_ne (by omega), upd_same]
          · rw [upd_ne (by omega), upd_same]
          · rw [upd_same]
          · rw [upd_ne (by omega), upd_same]
          · rw [upd_same]
        · have h9 := hr p (by omega)
          rw [← hA]
          refine ⟨?_, ?_, ?_, ?_, ?_⟩
          · rw [upd_ne (by omega), upd_ne (by omega), upd_ne (by omega)]; exact h9.1
          · rw [upd_ne (by omega), upd_ne (by omega), upd_ne (by omega)]; exact h9.2.1
          · rw [upd_ne (by omega), upd_ne (by omega), upd_ne (by omega)]; exact h9.2.2.1
          · rw [upd_ne (by omega), upd_ne (by omega)]; exact h9.2.2.2.1
          · rw [upd_ne (by omega), upd_ne (by omega)]; exact h9.2.2.2.2
      · rw [upd_ne (by omega), upd_ne (by omega)]; exact hr2 i hi) 500 (m, jN 0) ⟨rfl, m.1 2, m.1 4, by
        have e1 : zk_row (zk_row m 2 (m.1 2)) 4 (m.1 4) = m := by rw [zk_row_self, zk_row_self]
        exact e1.symm, fun p hp => by omega, fun _ _ => rfl⟩ (by omega)
  subst h2
  exact ⟨a, b, h1, h3⟩
