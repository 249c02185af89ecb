def zSXl : List ((Nat × Nat) ⊕ Nat) := [(.inr 11), (.inr 9), (.inl (200, 0)), (.inl (5, 0)), (.inr 8), (.inl (42, 0)), (.inr 1), (.inl (6, 0)), (.inl (8, 0)), (.inr 5), (.inl (10, 3)), (.inl (42, 0)), (.inl (42, 0)), (.inl (42, 0)), (.inl (42, 0)), (.inl (42, 0)), (.inl (42, 0)), (.inl (42, 0)), (.inl (42, 0)), (.inl (42, 0)), (.inl (42, 0)), (.inr 0), (.inl (2, 3)), (.inl (42, 0)), (.inl (42, 0)), (.inl (2, 1)), (.inr 7), (.inl (6, 0)), (.inl (6, 0)), (.inl (6, 0)), (.inr 6), (.inr 1), (.inl (6, 0)), (.inl (8, 0)), (.inl (5, 0)), (.inl (6, 0)), (.inl (5, 0)), (.inl (5, 0)), (.inr 3), (.inr 8), (.inl (42, 0)), (.inr 2), (.inl (36, 2)), (.inl (36, 2)), (.inr 4), (.inl (64, 0)), (.inr 10), (.inl (8, 0)), (.inl (8, 0)), (.inl (8, 0)), (.inl (6, 0)), (.inl (12, 0)), (.inl (12, 0)), (.inl (5, 0)), (.inl (5, 0)), (.inr 10), (.inl (8, 0)), (.inl (8, 0)), (.inl (8, 0)), (.inl (6, 0)), (.inl (12, 0)), (.inl (12, 0)), (.inl (5, 0)), (.inl (5, 0))]
def zSXr : List (List Nat) := [[1, 4, 6, 9, 21, 26, 30, 38, 41, 44, 46, 55, 0], [2, 0, 0, 0, 0, 0, 3], [], [], [5], [], [7, 8], [], [], [10, 0, 0], [11, 12, 13, 14, 15, 16, 17, 18, 19, 20], [], [], [], [], [], [], [], [], [], [], [22, 25], [23, 24], [], [], [], [0, 0, 0, 27, 28, 29], [], [], [], [31, 34, 35, 36, 37, 0], [32, 33], [], [], [], [], [], [], [39], [40], [], [42, 43], [], [], [45], [], [0, 0, 0, 47, 48, 49, 50, 51, 52, 53, 54], [], [], [], [], [], [], [], [], [0, 0, 0, 56, 57, 58, 59, 60, 61, 62, 63], [], [], [], [], [], [], [], []]
def zSX : zkS := (64, fun k => zSXl[k]?, fun k f => (zSXr.getD k []).getD f 0)
def zSMl : List ((Nat × Nat) ⊕ Nat) := [(.inr 12), (.inl (24, 0)), (.inl (18, 0)), (.inl (10, 0)), (.inl (42, 0)), (.inl (420, 0)), (.inl (84, 0)), (.inl (2, 1)), (.inl (18, 0)), (.inl (200, 0)), (.inl (24, 0)), (.inl (30, 0)), (.inl (10, 0)), (.inl (5, 0)), (.inl (6, 0)), (.inl (8, 0)), (.inl (36, 0)), (.inl (64, 2)), (.inl (64, 2)), (.inl (64, 0))]
def zSMr : List (List Nat) := [[0, 1, 0, 2, 0, 3, 4, 5, 0, 6, 7, 0, 8, 0, 9, 0, 0, 0, 0, 0, 0, 0, 10, 0, 11, 0, 12, 13, 14, 15, 16, 17, 18, 19], [], [], [], [], [], [], [], [], [], [], [], [], [], [], [], [], [], [], []]
def zSM : zkS := (20, fun k => zSMl[k]?, fun k f => (zSMr.getD k []).getD f 0)
def zk_pi (a : Nat) : Nat := if 46 ≤ a ∧ a < 55 then a + 9 else if 55 ≤ a ∧ a < 64 then a - 9 else a
def zk_swap (mem : zkM) : zkM := (fun a => mem.1 (zk_pi a), fun a => mem.2 (zk_pi a))
theorem zq_10 {i : Int32} (h : zk_inb i 10 = true) : zSX.2.2 10 i.toNatClampNeg < zSX.1 ∧ zSX.2.1 (zSX.2.2 10 i.toNatClampNeg) = some (.inl (42, 0)) := by
  have h2 : i.toNatClampNeg < 10 := by unfold zk_inb at h; simp only [Bool.and_eq_true, decide_eq_true_eq] at h; exact h.2
  generalize i.toNatClampNeg = j at h2
  exact (by decide : ∀ j, j < 10 → zSX.2.2 10 j < zSX.1 ∧ zSX.2.1 (zSX.2.2 10 j) = some (.inl (42, 0))) j h2
theorem zq_22 {i : Int32} (h : zk_inb i 2 = true) : zSX.2.2 22 i.toNatClampNeg < zSX.1 ∧ zSX.2.1 (zSX.2.2 22 i.toNatClampNeg) = some (.inl (42, 0)) := by
  have h2 : i.toNatClampNeg < 2 := by unfold zk_inb at h; simp only [Bool.and_eq_true, decide_eq_true_eq] at h; exact h.2
  generalize i.toNatClampNeg = j at h2
  exact (by decide : ∀ j, j < 2 → zSX.2.2 22 j < zSX.1 ∧ zSX.2.1 (zSX.2.2 22 j) = some (.inl (42, 0))) j h2
def fTp_within (a0 : Int32) (a1 : Int32) (a2 : Int32) : Bool :=
  (if a0 < a1 then false else (if a2 < a0 then false else true))
def fScript_append (mem : zkM) (a1 : Int32) : Option (Bool × zkM) :=
  (if (mem.1 1 1) < (200 : Int32) then (bif zk_inb (mem.1 1 1) 200 then zk_let (zk_u mem 2 (Int32.toNatClampNeg (mem.1 1 1)) a1) (fun m2 => zk_let (zk_u m2 1 1 ((m2.1 1 1) + (1 : Int32))) (fun m3 => some (true, m3))) else none) else some (false, mem))
def fTp_type (mem : zkM) (a1 : Int32) : Option (Int32 × zkM) :=
  (if (zk_b (fTp_within a1 (0 : Int32) (255 : Int32))) = 0 then some ((-1 : Int32), mem) else (fScript_append mem a1).bind (fun q1 => (if (zk_b q1.1) = 0 then some ((-3 : Int32), q1.2) else some (q1.2.1 1 1, q1.2))))
def fTp_clear (mem : zkM) : Int32 × zkM :=
  zk_let (mem.1 1 1) (fun v1 => zk_let (zk_u mem 1 1 (0 : Int32)) (fun m2 => (v1, m2)))
def fBurden_empty_L2 : Nat → zkM → Int32 → Option (zkM)
  | 0, _, _ => none
  | n + 1, mem, x1 => (if (6 : Int32) ≤ x1 then some mem else (bif zk_inb x1 6 then zk_let (zk_u mem 7 (Int32.toNatClampNeg x1) (0 : Int32)) (fun m2 => fBurden_empty_L2 n m2 (x1 + (1 : Int32))) else none))
def fBurden_empty_L23 : Nat → zkM → Int32 → Option (zkM)
  | 0, _, _ => none
  | n + 1, mem, x1 => (if (8 : Int32) ≤ x1 then some mem else (bif zk_inb x1 8 then zk_let (zk_u mem 8 (Int32.toNatClampNeg x1) (0 : Int32)) (fun m2 => fBurden_empty_L23 n m2 (x1 + (1 : Int32))) else none))
def fBurden_empty (mem : zkM) : Option (zkM) :=
  (fBurden_empty_L2 500 mem (0 : Int32)).bind (fun q1 => (fBurden_empty_L23 500 q1 (0 : Int32)).bind (fun q2 => some q2))
def fScene_plankUnder (mem : zkM) (a1 : Int32) : Option (Int32) :=
  (bif zk_inb a1 42 then some (mem.1 5 (Int32.toNatClampNeg a1)) else none)
def fBurden_add (mem : zkM) (a2 : Int32) (a3 : Int32) : Option (zkM) :=
  (bif zk_inb ((2 : Int32) * a2) 12 then zk_let (mem.1 51 (Int32.toNatClampNeg ((2 : Int32) * a2))) (fun v2 => (bif zk_inb (((2 : Int32) * a2) + (1 : Int32)) 12 then zk_let (mem.1 51 (Int32.toNatClampNeg (((2 : Int32) * a2) + (1 : Int32)))) (fun v4 => (bif zk_inb v2 8 then (bif zk_inb a2 6 then (bif zk_inb a2 6 then (bif zk_inb v2 8 then zk_let (zk_u mem 8 (Int32.toNatClampNeg v2) ((mem.1 8 (Int32.toNatClampNeg v2)) - ((mem.1 7 (Int32.toNatClampNeg a2)) - ((mem.1 7 (Int32.toNatClampNeg a2)) / (2 : Int32))))) (fun m9 => (bif zk_inb v4 8 then (bif zk_inb a2 6 then (bif zk_inb v4 8 then zk_let (zk_u m9 8 (Int32.toNatClampNeg v4) ((m9.1 8 (Int32.toNatClampNeg v4)) - ((m9.1 7 (Int32.toNatClampNeg a2)) / (2 : Int32)))) (fun m13 => (bif zk_inb a2 6 then (bif zk_inb a2 6 then zk_let (zk_u m13 7 (Int32.toNatClampNeg a2) ((m13.1 7 (Int32.toNatClampNeg a2)) + a3)) (fun m16 => (bif zk_inb v2 8 then (bif zk_inb a2 6 then (bif zk_inb a2 6 then (bif zk_inb v2 8 then zk_let (zk_u m16 8 (Int32.toNatClampNeg v2) ((m16.1 8 (Int32.toNatClampNeg v2)) + ((m16.1 7 (Int32.toNatClampNeg a2)) - ((m16.1 7 (Int32.toNatClampNeg a2)) / (2 : Int32))))) (fun m21 => (bif zk_inb v4 8 then (bif zk_inb a2 6 then (bif zk_inb v4 8 then zk_let (zk_u m21 8 (Int32.toNatClampNeg v4) ((m21.1 8 (Int32.toNatClampNeg v4)) + ((m21.1 7 (Int32.toNatClampNeg a2)) / (2 : Int32)))) (fun m25 => some m25) else none) else none) else none)) else none) else none) else none) else none)) else none) else none)) else none) else none) else none)) else none) else none) else none) else none)) else none)) else none)
def fBurden_weigh_L6 : Nat → zkM → Int32 → Option (zkM)
  | 0, _, _ => none
  | n + 1, mem, x3 => (if (mem.1 46 2) ≤ x3 then some mem else (fScene_plankUnder mem x3).bind (fun q1 => ((if (zk_b (fTp_within q1 (0 : Int32) ((mem.1 46 1) - (1 : Int32)))) = 0 then some mem else (bif zk_inb x3 5 then (fBurden_add mem q1 (mem.1 53 (Int32.toNatClampNeg x3))).bind (fun q4 => some q4) else none))).bind (fun q2 => fBurden_weigh_L6 n q2 (x3 + (1 : Int32)))))
def fBurden_weigh (mem : zkM) : Option (zkM) :=
  (fBurden_empty mem).bind (fun q1 => (fBurden_weigh_L6 500 q1 (0 : Int32)).bind (fun q2 => some q2))
def fTp_bough (mem : zkM) (a1 : Int32) (a2 : Int32) : Option (Int32 × zkM) :=
  (if (zk_b (fTp_within a1 (0 : Int32) ((mem.1 46 0) - (1 : Int32)))) = 0 then some ((-1 : Int32), mem) else (if a2 = (0 : Int32) then (bif zk_inb a1 8 then some (mem.1 47 (Int32.toNatClampNeg a1), mem) else none) else (if a2 = (1 : Int32) then (bif zk_inb a1 8 then some (mem.1 48 (Int32.toNatClampNeg a1), mem) else none) else (if a2 = (2 : Int32) then (bif zk_inb a1 8 then some (mem.1 49 (Int32.toNatClampNeg a1), mem) else none) else (if a2 = (3 : Int32) then (fBurden_weigh mem).bind (fun q8 => (bif zk_inb a1 8 then some (q8.1 8 (Int32.toNatClampNeg a1), q8) else none)) else some ((-1 : Int32), mem))))))
def fTp_isPlank (mem : zkM) (a1 : Int32) : Bool :=
  (fTp_within a1 (0 : Int32) ((mem.1 46 1) - (1 : Int32)))
def fTp_plank (mem : zkM) (a1 : Int32) (a2 : Int32) : Option (Int32 × zkM) :=
  (if (zk_b (fTp_isPlank mem a1)) = 0 then some ((-1 : Int32), mem) else (if a2 = (0 : Int32) then (bif zk_inb ((2 : Int32) * a1) 12 then some (mem.1 51 (Int32.toNatClampNeg ((2 : Int32) * a1)), mem) else none) else (if a2 = (1 : Int32) then (bif zk_inb (((2 : Int32) * a1) + (1 : Int32)) 12 then some (mem.1 51 (Int32.toNatClampNeg (((2 : Int32) * a1) + (1 : Int32))), mem) else none) else (if a2 = (2 : Int32) then (bif zk_inb a1 6 then some (mem.1 50 (Int32.toNatClampNeg a1), mem) else none) else (if a2 = (3 : Int32) then (fBurden_weigh mem).bind (fun q8 => (bif zk_inb a1 6 then some (q8.1 7 (Int32.toNatClampNeg a1), q8) else none)) else some ((-1 : Int32), mem))))))
def fTp_isEnd (mem : zkM) (a1 : Int32) (a2 : Int32) : Bool :=
  (if (zk_b (fTp_isPlank mem a1)) = 0 then false else (if (zk_b (fTp_within a2 (0 : Int32) (1 : Int32))) = 0 then false else true))
def fScene_kindOf (mem : zkM) (a1 : Int32) : Option (Int32) :=
  (bif zk_inb ((5 : Int32) + a1) 42 then some (mem.1 5 (Int32.toNatClampNeg ((5 : Int32) + a1))) else none)
def fScene_wearOf (mem : zkM) (a1 : Int32) : Option (Int32) :=
  (bif zk_inb ((17 : Int32) + a1) 42 then some (mem.1 5 (Int32.toNatClampNeg ((17 : Int32) + a1))) else none)
def fScene_isOut (mem : zkM) (a1 : Int32) : Option (Bool) :=
  (bif zk_inb ((29 : Int32) + a1) 42 then (if (mem.1 5 (Int32.toNatClampNeg ((29 : Int32) + a1))) = 0 then some false else some true) else none)
def fTp_end (mem : zkM) (a1 : Int32) (a2 : Int32) (a3 : Int32) : Option (Int32) :=
  (if (zk_b (fTp_isEnd mem a1 a2)) = 0 then some (-1 : Int32) else zk_let (((2 : Int32) * a1) + a2) (fun v1 => (if a3 = (0 : Int32) then (fScene_kindOf mem v1).bind (fun q3 => some q3) else (if a3 = (1 : Int32) then (fScene_wearOf mem v1).bind (fun q5 => some q5) else (if a3 = (2 : Int32) then (fScene_isOut mem v1).bind (fun q7 => (if (zk_b q7) = 0 then some (0 : Int32) else some (1 : Int32))) else some (-1 : Int32))))))
def fTp_isChild (mem : zkM) (a1 : Int32) : Bool :=
  (fTp_within a1 (0 : Int32) ((mem.1 46 2) - (1 : Int32)))
def fTp_child (mem : zkM) (a1 : Int32) (a2 : Int32) : Option (Int32) :=
  (if (zk_b (fTp_isChild mem a1)) = 0 then some (-1 : Int32) else (if a2 = (0 : Int32) then (bif zk_inb a1 5 then some (mem.1 53 (Int32.toNatClampNeg a1)) else none) else (if a2 = (1 : Int32) then (bif zk_inb a1 5 then some (mem.1 54 (Int32.toNatClampNeg a1)) else none) else (if a2 = (2 : Int32) then (fScene_plankUnder mem a1).bind (fun q6 => some q6) else some (-1 : Int32)))))
def fBurden_firstTooLaden_L2 : Nat → zkM → Int32 → Option ((Int32) ⊕ (Unit))
  | 0, _, _ => none
  | n + 1, mem, x2 => (if (mem.1 46 1) ≤ x2 then some (.inr ()) else (bif zk_inb x2 6 then (bif zk_inb x2 6 then (if (mem.1 7 (Int32.toNatClampNeg x2)) ≤ (mem.1 50 (Int32.toNatClampNeg x2)) then fBurden_firstTooLaden_L2 n mem (x2 + (1 : Int32)) else some (.inl x2)) else none) else none))
def fBurden_firstTooLaden (mem : zkM) : Option (Int32) :=
  (fBurden_firstTooLaden_L2 500 mem (0 : Int32)).bind (fun q1 => Sum.elim (fun y => some y) (fun q2 => some (-9 : Int32)) q1)
def fBurden_firstTooBent_L2 : Nat → zkM → Int32 → Option ((Int32) ⊕ (Unit))
  | 0, _, _ => none
  | n + 1, mem, x2 => (if (mem.1 46 0) ≤ x2 then some (.inr ()) else (bif zk_inb x2 8 then (bif zk_inb x2 8 then (if (mem.1 8 (Int32.toNatClampNeg x2)) ≤ (mem.1 48 (Int32.toNatClampNeg x2)) then fBurden_firstTooBent_L2 n mem (x2 + (1 : Int32)) else some (.inl x2)) else none) else none))
def fBurden_firstTooBent (mem : zkM) : Option (Int32) :=
  (fBurden_firstTooBent_L2 500 mem (0 : Int32)).bind (fun q1 => Sum.elim (fun y => some y) (fun q2 => some (-9 : Int32)) q1)
def fScene_hasBothEnds (mem : zkM) (a1 : Int32) : Option (Bool) :=
  (fScene_isOut mem ((2 : Int32) * a1)).bind (fun q1 => (if (zk_b q1) = 0 then (fScene_isOut mem (((2 : Int32) * a1) + (1 : Int32))).bind (fun q2 => (if (zk_b q2) = 0 then some true else some false)) else some false))
def fBurden_firstUnheld_L2 : Nat → zkM → Int32 → Option ((Int32) ⊕ (Unit))
  | 0, _, _ => none
  | n + 1, mem, x3 => (if (mem.1 46 1) ≤ x3 then some (.inr ()) else (bif zk_inb x3 6 then (if (mem.1 7 (Int32.toNatClampNeg x3)) ≤ 0 then fBurden_firstUnheld_L2 n mem (x3 + (1 : Int32)) else (fScene_hasBothEnds mem x3).bind (fun q2 => (if (zk_b q2) = 0 then some (.inl x3) else fBurden_firstUnheld_L2 n mem (x3 + (1 : Int32))))) else none))
def fBurden_firstUnheld (mem : zkM) : Option (Int32) :=
  (fBurden_firstUnheld_L2 500 mem (0 : Int32)).bind (fun q1 => Sum.elim (fun y => some y) (fun q2 => some (-9 : Int32)) q1)
def fBurden_allHold (mem : zkM) : Option (Bool) :=
  (fBurden_firstTooLaden mem).bind (fun q1 => (if q1 = (-9 : Int32) then (fBurden_firstTooBent mem).bind (fun q2 => (if q2 = (-9 : Int32) then (fBurden_firstUnheld mem).bind (fun q3 => (if q3 = (-9 : Int32) then some true else some false)) else some false)) else some false))
def fScene_gales (mem : zkM) : Int32 :=
  mem.1 5 (Int32.toNatClampNeg (41 : Int32))
def fTp_now (mem : zkM) (a1 : Int32) : Option (Int32 × zkM) :=
  (if (zk_b (fTp_within a1 (0 : Int32) (5 : Int32))) = 0 then some ((-1 : Int32), mem) else (fBurden_weigh mem).bind (fun q1 => (if a1 = (0 : Int32) then (fBurden_allHold q1).bind (fun q3 => (if (zk_b q3) = 0 then some ((0 : Int32), q1) else some ((1 : Int32), q1))) else (if a1 = (1 : Int32) then (fBurden_firstTooLaden q1).bind (fun q6 => some (q6, q1)) else (if a1 = (2 : Int32) then (fBurden_firstTooBent q1).bind (fun q8 => some (q8, q1)) else (if a1 = (3 : Int32) then (fBurden_firstUnheld q1).bind (fun q10 => some (q10, q1)) else (if a1 = (4 : Int32) then some ((fScene_gales q1), q1) else some (q1.1 9 1, q1))))))))
def fScene_copyTo_q (mem : zkM) (q : Nat) : zkM :=
  zk_let (zk_cp mem 5 q 0 0 42) (fun m1 => m1)
def fPast_remember (mem : zkM) : Option (zkM) :=
  (bif zk_inb (mem.1 9 2) 10 then zk_let (fScene_copyTo_q mem (zSX.2.2 10 (Int32.toNatClampNeg (mem.1 9 2)))) (fun q2 => zk_let (if (10 : Int32) ≤ ((q2.1 9 2) + (1 : Int32)) then (0 : Int32) else (q2.1 9 2) + (1 : Int32)) (fun q3 => zk_let (zk_u q2 9 2 q3) (fun m5 => zk_let (zk_u m5 9 1 (zk_min ((m5.1 9 1) + (1 : Int32)) (10 : Int32))) (fun m6 => some m6)))) else none)
def fScene_put (mem : zkM) (a1 : Int32) (a2 : Int32) : Option (zkM) :=
  (bif zk_inb a1 42 then zk_let (zk_u mem 5 (Int32.toNatClampNeg a1) a2) (fun m2 => some m2) else none)
def fTp_stands (mem : zkM) (a1 : Int32) (a2 : Int32) : Option (Int32 × zkM) :=
  (if (zk_b (fTp_isChild mem a1)) = 0 then some ((-1 : Int32), mem) else (if a2 = (-9 : Int32) then (fPast_remember mem).bind (fun q1 => (fScene_plankUnder q1 a1).bind (fun q2 => (fScene_put q1 a1 a2).bind (fun q3 => some (q2, q3)))) else (if (zk_b (fTp_isPlank mem a2)) = 0 then some ((-1 : Int32), mem) else (fPast_remember mem).bind (fun q4 => (fScene_plankUnder q4 a1).bind (fun q5 => (fScene_put q4 a1 a2).bind (fun q6 => some (q5, q6)))))))
def fTp_isForce (a0 : Int32) : Bool :=
  (fTp_within a0 (1 : Int32) (9 : Int32))
def fTree_ends (mem : zkM) : Int32 :=
  (2 : Int32) * (mem.1 46 1)
def fTree_swayAcross (mem : zkM) (a1 : Int32) : Option (Int32) :=
  (bif zk_inb ((2 : Int32) * a1) 12 then (bif zk_inb (mem.1 51 (Int32.toNatClampNeg ((2 : Int32) * a1))) 8 then (bif zk_inb (((2 : Int32) * a1) + (1 : Int32)) 12 then (bif zk_inb (mem.1 51 (Int32.toNatClampNeg (((2 : Int32) * a1) + (1 : Int32)))) 8 then some (zk_abs ((mem.1 49 (Int32.toNatClampNeg (mem.1 51 (Int32.toNatClampNeg ((2 : Int32) * a1))))) - (mem.1 49 (Int32.toNatClampNeg (mem.1 51 (Int32.toNatClampNeg (((2 : Int32) * a1) + (1 : Int32)))))))) else none) else none) else none) else none)
def fTp_growth (a0 : Int32) (a1 : Int32) (a2 : Int32) : Int32 :=
  (if a0 = (1 : Int32) then a1 * a2 else (if a0 = (2 : Int32) then (a1 * a2) / (2 : Int32) else (if a0 = (3 : Int32) then (a1 * a2) / (3 : Int32) else (0 : Int32))))
def fTp_givesAt (a0 : Int32) : Int32 :=
  (if a0 = (1 : Int32) then (12 : Int32) else (if a0 = (2 : Int32) then (20 : Int32) else (if a0 = (3 : Int32) then (36 : Int32) else (1000000 : Int32))))
def fScene_shake (mem : zkM) (a1 : Int32) (a2 : Int32) (a3 : Int32) : Option (zkM) :=
  (fScene_kindOf mem a1).bind (fun q1 => (bif zk_inb ((17 : Int32) + a1) 42 then (bif zk_inb ((17 : Int32) + a1) 42 then zk_let (zk_u mem 5 (Int32.toNatClampNeg ((17 : Int32) + a1)) ((mem.1 5 (Int32.toNatClampNeg ((17 : Int32) + a1))) + (fTp_growth q1 a2 a3))) (fun m4 => zk_let (if q1 = 0 then (if a3 < (7 : Int32) then false else true) else false) (fun q5 => (if (zk_b q5) = 0 then (fScene_wearOf m4 a1).bind (fun q10 => (if q10 < (fTp_givesAt q1) then some m4 else (bif zk_inb ((29 : Int32) + a1) 42 then zk_let (zk_u m4 5 (Int32.toNatClampNeg ((29 : Int32) + a1)) (1 : Int32)) (fun m12 => some m12) else none))) else (bif zk_inb ((29 : Int32) + a1) 42 then zk_let (zk_u m4 5 (Int32.toNatClampNeg ((29 : Int32) + a1)) (1 : Int32)) (fun m9 => some m9) else none)))) else none) else none))
def fScene_blow_L2 : Nat → zkM → Int32 → Int32 → Option (zkM)
  | 0, _, _, _ => none
  | n + 1, mem, x2, x3 => (if (fTree_ends mem) ≤ x3 then some mem else (fScene_isOut mem x3).bind (fun q1 => ((if (zk_b q1) = 0 then (fTree_swayAcross mem (x3 / (2 : Int32))).bind (fun q3 => (fScene_shake mem x3 q3 x2).bind (fun q4 => some q4)) else some mem)).bind (fun q2 => fScene_blow_L2 n q2 x2 (x3 + (1 : Int32)))))
def fScene_blow (mem : zkM) (a2 : Int32) : Option (zkM) :=
  (fScene_blow_L2 500 mem a2 (0 : Int32)).bind (fun q1 => zk_let (zk_u q1 5 (Int32.toNatClampNeg (41 : Int32)) ((q1.1 5 (Int32.toNatClampNeg (41 : Int32))) + (1 : Int32))) (fun m2 => some m2))
def fScene_outBits_L4 : Nat → zkM → Int32 → Int32 → Option (Int32)
  | 0, _, _, _ => none
  | n + 1, mem, x2, x3 => (if (fTree_ends mem) ≤ x3 then some x2 else (fScene_isOut mem x3).bind (fun q1 => zk_let (if (zk_b q1) = 0 then x2 else zk_let (x2 ||| ((1 : Int32) <<< (x3 &&& 31))) (fun v3 => v3)) (fun q2 => fScene_outBits_L4 n mem q2 (x3 + (1 : Int32)))))
def fScene_outBits (mem : zkM) : Option (Int32) :=
  (fScene_outBits_L4 500 mem (0 : Int32) (0 : Int32)).bind (fun q1 => some q1)
def fJint_bitCount (a0 : Int32) : Int32 :=
  zk_let (a0 - (((a0.toUInt32 >>> ((1 : Int32).toUInt32 &&& Int32.toUInt32 31)).toInt32) &&& (1431655765 : Int32))) (fun v1 => zk_let ((v1 &&& (858993459 : Int32)) + (((v1.toUInt32 >>> ((2 : Int32).toUInt32 &&& Int32.toUInt32 31)).toInt32) &&& (858993459 : Int32))) (fun v2 => zk_let ((v2 + ((v2.toUInt32 >>> ((4 : Int32).toUInt32 &&& Int32.toUInt32 31)).toInt32)) &&& (252645135 : Int32)) (fun v3 => zk_let (v3 + ((v3.toUInt32 >>> ((8 : Int32).toUInt32 &&& Int32.toUInt32 31)).toInt32)) (fun v4 => zk_let (v4 + ((v4.toUInt32 >>> ((16 : Int32).toUInt32 &&& Int32.toUInt32 31)).toInt32)) (fun v5 => v5 &&& (63 : Int32))))))
def fScene_outs (mem : zkM) : Option (Int32) :=
  (fScene_outBits mem).bind (fun q1 => some (fJint_bitCount q1))
def fTp_gale (mem : zkM) (a1 : Int32) : Option (Int32 × zkM) :=
  (if (zk_b (fTp_isForce a1)) = 0 then some ((-1 : Int32), mem) else (if (fScene_gales mem) < (999 : Int32) then (fPast_remember mem).bind (fun q1 => (fScene_blow q1 a1).bind (fun q2 => (fScene_outs q2).bind (fun q3 => some (q3, q2)))) else some ((-2 : Int32), mem)))
def fScene_doAnew (mem : zkM) (a1 : Int32) (a2 : Int32) : Option (zkM) :=
  (bif zk_inb ((5 : Int32) + a1) 42 then zk_let (zk_u mem 5 (Int32.toNatClampNeg ((5 : Int32) + a1)) a2) (fun m2 => (bif zk_inb ((17 : Int32) + a1) 42 then zk_let (zk_u m2 5 (Int32.toNatClampNeg ((17 : Int32) + a1)) (0 : Int32)) (fun m4 => (bif zk_inb ((29 : Int32) + a1) 42 then zk_let (zk_u m4 5 (Int32.toNatClampNeg ((29 : Int32) + a1)) (0 : Int32)) (fun m6 => some m6) else none)) else none)) else none)
def fTp_join (mem : zkM) (a1 : Int32) (a2 : Int32) (a3 : Int32) : Option (Int32 × zkM) :=
  (if (zk_b (fTp_isEnd mem a1 a2)) = 0 then some ((-1 : Int32), mem) else (if (zk_b (fTp_within a3 (0 : Int32) (3 : Int32))) = 0 then some ((-1 : Int32), mem) else (fPast_remember mem).bind (fun q1 => (fScene_kindOf q1 (((2 : Int32) * a1) + a2)).bind (fun q2 => (fScene_doAnew q1 (((2 : Int32) * a1) + a2) a3).bind (fun q3 => some (q2, q3))))))
def fScene_growBark_L4 : Nat → zkM → Int32 → Int32 → Option (Int32 × zkM)
  | 0, _, _, _ => none
  | n + 1, mem, x2, x3 => (if (fTree_ends mem) ≤ x3 then some (x2, mem) else (fScene_kindOf mem x3).bind (fun q1 => ((if q1 = (1 : Int32) then (fScene_isOut mem x3).bind (fun q3 => (if (zk_b q3) = 0 then (fScene_wearOf mem x3).bind (fun q4 => (if q4 ≤ 0 then some (x2, mem) else (fScene_wearOf mem x3).bind (fun q5 => (bif zk_inb ((17 : Int32) + x3) 42 then zk_let (zk_u mem 5 (Int32.toNatClampNeg ((17 : Int32) + x3)) (zk_max (0 : Int32) (q5 - (2 : Int32)))) (fun m7 => some (x2 + (1 : Int32), m7)) else none)))) else some (x2, mem))) else some (x2, mem))).bind (fun q2 => fScene_growBark_L4 n q2.2 q2.1 (x3 + (1 : Int32)))))
def fScene_growBark (mem : zkM) : Option (Int32 × zkM) :=
  (fScene_growBark_L4 500 mem (0 : Int32) (0 : Int32)).bind (fun q1 => some (q1.1, q1.2))
def fTp_spring (mem : zkM) : Option (Int32 × zkM) :=
  (fPast_remember mem).bind (fun q1 => (fScene_growBark q1).bind (fun q2 => some (q2.1, q2.2)))
def fScene_copyFrom_q (mem : zkM) (q : Nat) : zkM :=
  zk_let (zk_cp mem q 5 0 0 42) (fun m1 => m1)
def fPast_takeBack (mem : zkM) : Option (Bool × zkM) :=
  (if (mem.1 9 1) = 0 then some (false, mem) else zk_let (zk_u mem 9 1 ((mem.1 9 1) - (1 : Int32))) (fun m1 => zk_let (if (m1.1 9 2) ≤ 0 then (9 : Int32) else (m1.1 9 2) - (1 : Int32)) (fun q2 => zk_let (zk_u m1 9 2 q2) (fun m4 => (bif zk_inb (m4.1 9 2) 10 then zk_let (fScene_copyFrom_q m4 (zSX.2.2 10 (Int32.toNatClampNeg (m4.1 9 2)))) (fun q6 => some (true, q6)) else none)))))
def fTp_undo (mem : zkM) : Option (Int32 × zkM) :=
  (fPast_takeBack mem).bind (fun q1 => (if (zk_b q1.1) = 0 then some ((-2 : Int32), q1.2) else some (q1.2.1 9 1, q1.2)))
def fBurden_emptyP_L2 : Nat → zkM → Int32 → Option (zkM)
  | 0, _, _ => none
  | n + 1, mem, x1 => (if (6 : Int32) ≤ x1 then some mem else (bif zk_inb x1 6 then zk_let (zk_u mem 32 (Int32.toNatClampNeg x1) (0 : Int32)) (fun m2 => fBurden_emptyP_L2 n m2 (x1 + (1 : Int32))) else none))
def fBurden_emptyP_L23 : Nat → zkM → Int32 → Option (zkM)
  | 0, _, _ => none
  | n + 1, mem, x1 => (if (8 : Int32) ≤ x1 then some mem else (bif zk_inb x1 8 then zk_let (zk_u mem 33 (Int32.toNatClampNeg x1) (0 : Int32)) (fun m2 => fBurden_emptyP_L23 n m2 (x1 + (1 : Int32))) else none))
def fBurden_emptyP (mem : zkM) : Option (zkM) :=
  (fBurden_emptyP_L2 500 mem (0 : Int32)).bind (fun q1 => (fBurden_emptyP_L23 500 q1 (0 : Int32)).bind (fun q2 => some q2))
def fBurden_addP (mem : zkM) (a2 : Int32) (a3 : Int32) : Option (zkM) :=
  (bif zk_inb ((2 : Int32) * a2) 12 then zk_let (mem.1 51 (Int32.toNatClampNeg ((2 : Int32) * a2))) (fun v2 => (bif zk_inb (((2 : Int32) * a2) + (1 : Int32)) 12 then zk_let (mem.1 51 (Int32.toNatClampNeg (((2 : Int32) * a2) + (1 : Int32)))) (fun v4 => (bif zk_inb v2 8 then (bif zk_inb a2 6 then (bif zk_inb a2 6 then (bif zk_inb v2 8 then zk_let (zk_u mem 33 (Int32.toNatClampNeg v2) ((mem.1 33 (Int32.toNatClampNeg v2)) - ((mem.1 32 (Int32.toNatClampNeg a2)) - ((mem.1 32 (Int32.toNatClampNeg a2)) / (2 : Int32))))) (fun m9 => (bif zk_inb v4 8 then (bif zk_inb a2 6 then (bif zk_inb v4 8 then zk_let (zk_u m9 33 (Int32.toNatClampNeg v4) ((m9.1 33 (Int32.toNatClampNeg v4)) - ((m9.1 32 (Int32.toNatClampNeg a2)) / (2 : Int32)))) (fun m13 => (bif zk_inb a2 6 then (bif zk_inb a2 6 then zk_let (zk_u m13 32 (Int32.toNatClampNeg a2) ((m13.1 32 (Int32.toNatClampNeg a2)) + a3)) (fun m16 => (bif zk_inb v2 8 then (bif zk_inb a2 6 then (bif zk_inb a2 6 then (bif zk_inb v2 8 then zk_let (zk_u m16 33 (Int32.toNatClampNeg v2) ((m16.1 33 (Int32.toNatClampNeg v2)) + ((m16.1 32 (Int32.toNatClampNeg a2)) - ((m16.1 32 (Int32.toNatClampNeg a2)) / (2 : Int32))))) (fun m21 => (bif zk_inb v4 8 then (bif zk_inb a2 6 then (bif zk_inb v4 8 then zk_let (zk_u m21 33 (Int32.toNatClampNeg v4) ((m21.1 33 (Int32.toNatClampNeg v4)) + ((m21.1 32 (Int32.toNatClampNeg a2)) / (2 : Int32)))) (fun m25 => some m25) else none) else none) else none)) else none) else none) else none) else none)) else none) else none)) else none) else none) else none)) else none) else none) else none) else none)) else none)) else none)
def fBurden_fitsP (mem : zkM) (a2 : Int32) : Option (Bool) :=
  (bif zk_inb ((2 : Int32) * a2) 12 then zk_let (mem.1 51 (Int32.toNatClampNeg ((2 : Int32) * a2))) (fun v2 => (bif zk_inb (((2 : Int32) * a2) + (1 : Int32)) 12 then zk_let (mem.1 51 (Int32.toNatClampNeg (((2 : Int32) * a2) + (1 : Int32)))) (fun v4 => (bif zk_inb a2 6 then (bif zk_inb a2 6 then (if (mem.1 50 (Int32.toNatClampNeg a2)) < (mem.1 32 (Int32.toNatClampNeg a2)) then some false else (bif zk_inb v2 8 then (bif zk_inb v2 8 then (if (mem.1 48 (Int32.toNatClampNeg v2)) < (mem.1 33 (Int32.toNatClampNeg v2)) then some false else (bif zk_inb v4 8 then (bif zk_inb v4 8 then (if (mem.1 48 (Int32.toNatClampNeg v4)) < (mem.1 33 (Int32.toNatClampNeg v4)) then some false else some true) else none) else none)) else none) else none)) else none) else none)) else none)) else none)
def fPlanner_placeFrom_L57 (rec : zkM → Int32 → Int32 → Option zkM) : Nat → zkM → Int32 → Int32 → Int32 → Option (zkM)
  | 0, _, _, _, _ => none
  | n + 1, mem, x3, x4, x5 => (if (mem.1 46 1) ≤ x5 then some mem else (fScene_hasBothEnds mem x5).bind (fun q1 => ((if (zk_b q1) = 0 then some mem else (bif zk_inb x3 5 then (fBurden_addP mem x5 (mem.1 53 (Int32.toNatClampNeg x3))).bind (fun q4 => (fBurden_fitsP q4 x5).bind (fun q5 => ((if (zk_b q5) = 0 then some q4 else (bif zk_inb x3 5 then zk_let (zk_u q4 36 (Int32.toNatClampNeg x3) x5) (fun m8 => (bif zk_inb x3 5 then (rec m8 (x3 + (1 : Int32)) (x4 + (m8.1 34 (Int32.toNatClampNeg x3)))).bind (fun q10 => some q10) else none)) else none))).bind (fun q6 => (bif zk_inb x3 5 then (fBurden_addP q6 x5 (-(q6.1 53 (Int32.toNatClampNeg x3)))).bind (fun q13 => some q13) else none)))) else none))).bind (fun q2 => fPlanner_placeFrom_L57 rec n q2 x3 x4 (x5 + (1 : Int32)))))
def fPlanner_placeFrom : Nat → zkM → Int32 → Int32 → Option (zkM)
  | 0, _, _, _ => none
  | n + 1, mem, a3, a4 => (if (mem.1 46 2) < a3 then some mem else (bif zk_inb a3 6 then (if (mem.1 30 5) < (a4 + (mem.1 35 (Int32.toNatClampNeg a3))) then (if a3 = (mem.1 46 2) then zk_let (zk_u mem 30 5 a4) (fun m6 => zk_let (zk_cp m6 36 37 0 0 5) (fun m7 => some m7)) else (fPlanner_placeFrom_L57 (fPlanner_placeFrom n) 500 mem a3 a4 (0 : Int32)).bind (fun q2 => (bif zk_inb a3 5 then zk_let (zk_u q2 36 (Int32.toNatClampNeg a3) (-9 : Int32)) (fun m4 => (fPlanner_placeFrom n m4 (a3 + (1 : Int32)) a4).bind (fun q5 => some q5)) else none))) else some mem) else none))
def fPlanner_seek_L17 : Nat → zkM → Int32 → Option (zkM)
  | 0, _, _ => none
  | n + 1, mem, x3 => (if x3 < 0 then some mem else (bif zk_inb (x3 + (1 : Int32)) 6 then (bif zk_inb x3 5 then (bif zk_inb x3 6 then zk_let (zk_u mem 35 (Int32.toNatClampNeg x3) ((mem.1 35 (Int32.toNatClampNeg (x3 + (1 : Int32)))) + (zk_max (0 : Int32) (mem.1 34 (Int32.toNatClampNeg x3))))) (fun m4 => fPlanner_seek_L17 n m4 (x3 + (-1 : Int32))) else none) else none) else none))
def fPlanner_seek (mem : zkM) : Option (zkM) :=
  (bif zk_inb (mem.1 46 2) 6 then zk_let (zk_u mem 35 (Int32.toNatClampNeg (mem.1 46 2)) (0 : Int32)) (fun m2 => zk_let ((m2.1 46 2) - (1 : Int32)) (fun v3 => (fPlanner_seek_L17 500 m2 v3).bind (fun q4 => (fBurden_emptyP q4).bind (fun q5 => zk_let (zk_u q5 30 5 (-1 : Int32)) (fun m6 => (fPlanner_placeFrom 12 m6 (0 : Int32) (0 : Int32)).bind (fun q7 => some q7)))))) else none)
def fPlanner_seekMost_L2 : Nat → zkM → Int32 → Option (zkM)
  | 0, _, _ => none
  | n + 1, mem, x3 => (if (mem.1 46 2) ≤ x3 then some mem else (bif zk_inb x3 5 then zk_let (zk_u mem 34 (Int32.toNatClampNeg x3) (1 : Int32)) (fun m2 => fPlanner_seekMost_L2 n m2 (x3 + (1 : Int32))) else none))
def fPlanner_seekMost (mem : zkM) : Option (zkM) :=
  (fPlanner_seekMost_L2 500 mem (0 : Int32)).bind (fun q1 => (fPlanner_seek q1).bind (fun q2 => some q2))
def fPlanner_placeOf (mem : zkM) (a1 : Int32) : Option (Int32) :=
  (bif zk_inb a1 5 then (if (mem.1 37 (Int32.toNatClampNeg a1)) = (-9 : Int32) then some (-5 : Int32) else (bif zk_inb a1 5 then some (mem.1 37 (Int32.toNatClampNeg a1)) else none)) else none)
def fPlanner_howMany_L4 : Nat → zkM → Int32 → Int32 → Option (Int32)
  | 0, _, _, _ => none
  | n + 1, mem, x2, x3 => (if (mem.1 46 2) ≤ x3 then some x2 else (bif zk_inb x3 5 then zk_let (if (mem.1 37 (Int32.toNatClampNeg x3)) = (-9 : Int32) then false else true) (fun q2 => zk_let (x2 + (zk_b q2)) (fun v4 => fPlanner_howMany_L4 n mem v4 (x3 + (1 : Int32)))) else none))
def fPlanner_howMany (mem : zkM) : Option (Int32) :=
  (fPlanner_howMany_L4 500 mem (0 : Int32) (0 : Int32)).bind (fun q1 => some q1)
def fTp_most (mem : zkM) (a1 : Int32) : Option (Int32 × zkM) :=
  (if a1 = (-9 : Int32) then (fPlanner_seekMost mem).bind (fun q1 => (if a1 = (-9 : Int32) then (fPlanner_howMany q1).bind (fun q3 => some (q3, q1)) else (fPlanner_placeOf q1 a1).bind (fun q2 => some (q2, q1)))) else (if (zk_b (fTp_isChild mem a1)) = 0 then some ((-1 : Int32), mem) else (fPlanner_seekMost mem).bind (fun q5 => (if a1 = (-9 : Int32) then (fPlanner_howMany q5).bind (fun q7 => some (q7, q5)) else (fPlanner_placeOf q5 a1).bind (fun q6 => some (q6, q5))))))
def fPlanner_seekRichest_L2 : Nat → zkM → Int32 → Option (zkM)
  | 0, _, _ => none
  | n + 1, mem, x3 => (if (mem.1 46 2) ≤ x3 then some mem else (bif zk_inb x3 5 then (bif zk_inb x3 5 then zk_let (zk_u mem 34 (Int32.toNatClampNeg x3) (((10 : Int32) * (mem.1 54 (Int32.toNatClampNeg x3))) - (1 : Int32))) (fun m3 => fPlanner_seekRichest_L2 n m3 (x3 + (1 : Int32))) else none) else none))
def fPlanner_seekRichest (mem : zkM) : Option (zkM) :=
  (fPlanner_seekRichest_L2 500 mem (0 : Int32)).bind (fun q1 => (fPlanner_seek q1).bind (fun q2 => some q2))
def fPlanner_howMuch_L4 : Nat → zkM → Int32 → Int32 → Option (Int32)
  | 0, _, _, _ => none
  | n + 1, mem, x2, x3 => (if (mem.1 46 2) ≤ x3 then some x2 else (bif zk_inb x3 5 then ((if (mem.1 37 (Int32.toNatClampNeg x3)) = (-9 : Int32) then some (0 : Int32) else (bif zk_inb x3 5 then some (mem.1 54 (Int32.toNatClampNeg x3)) else none))).bind (fun q2 => zk_let (x2 + q2) (fun v5 => fPlanner_howMuch_L4 n mem v5 (x3 + (1 : Int32)))) else none))
def fPlanner_howMuch (mem : zkM) : Option (Int32) :=
  (fPlanner_howMuch_L4 500 mem (0 : Int32) (0 : Int32)).bind (fun q1 => some q1)
def fTp_richest (mem : zkM) (a1 : Int32) : Option (Int32 × zkM) :=
  (if a1 = (-9 : Int32) then (fPlanner_seekRichest mem).bind (fun q1 => (if a1 = (-9 : Int32) then (fPlanner_howMuch q1).bind (fun q3 => some (q3, q1)) else (fPlanner_placeOf q1 a1).bind (fun q2 => some (q2, q1)))) else (if (zk_b (fTp_isChild mem a1)) = 0 then some ((-1 : Int32), mem) else (fPlanner_seekRichest mem).bind (fun q5 => (if a1 = (-9 : Int32) then (fPlanner_howMuch q5).bind (fun q7 => some (q7, q5)) else (fPlanner_placeOf q5 a1).bind (fun q6 => some (q6, q5))))))
def fScene_copyFromL_5 (mem : zkM) : zkM :=
  zk_let (zk_cp mem 5 40 0 0 42) (fun m1 => m1)
def fScene_isOutL (mem : zkM) (a1 : Int32) : Option (Bool) :=
  (bif zk_inb ((29 : Int32) + a1) 42 then (if (mem.1 40 (Int32.toNatClampNeg ((29 : Int32) + a1))) = 0 then some false else some true) else none)
def fScene_kindOfL (mem : zkM) (a1 : Int32) : Option (Int32) :=
  (bif zk_inb ((5 : Int32) + a1) 42 then some (mem.1 40 (Int32.toNatClampNeg ((5 : Int32) + a1))) else none)
def fScene_wearOfL (mem : zkM) (a1 : Int32) : Option (Int32) :=
  (bif zk_inb ((17 : Int32) + a1) 42 then some (mem.1 40 (Int32.toNatClampNeg ((17 : Int32) + a1))) else none)
def fScene_shakeL (mem : zkM) (a1 : Int32) (a2 : Int32) (a3 : Int32) : Option (zkM) :=
  (fScene_kindOfL mem a1).bind (fun q1 => (bif zk_inb ((17 : Int32) + a1) 42 then (bif zk_inb ((17 : Int32) + a1) 42 then zk_let (zk_u mem 40 (Int32.toNatClampNeg ((17 : Int32) + a1)) ((mem.1 40 (Int32.toNatClampNeg ((17 : Int32) + a1))) + (fTp_growth q1 a2 a3))) (fun m4 => zk_let (if q1 = 0 then (if a3 < (7 : Int32) then false else true) else false) (fun q5 => (if (zk_b q5) = 0 then (fScene_wearOfL m4 a1).bind (fun q10 => (if q10 < (fTp_givesAt q1) then some m4 else (bif zk_inb ((29 : Int32) + a1) 42 then zk_let (zk_u m4 40 (Int32.toNatClampNeg ((29 : Int32) + a1)) (1 : Int32)) (fun m12 => some m12) else none))) else (bif zk_inb ((29 : Int32) + a1) 42 then zk_let (zk_u m4 40 (Int32.toNatClampNeg ((29 : Int32) + a1)) (1 : Int32)) (fun m9 => some m9) else none)))) else none) else none))
def fScene_blowL_L2 : Nat → zkM → Int32 → Int32 → Option (zkM)
  | 0, _, _, _ => none
  | n + 1, mem, x2, x3 => (if (fTree_ends mem) ≤ x3 then some mem else (fScene_isOutL mem x3).bind (fun q1 => ((if (zk_b q1) = 0 then (fTree_swayAcross mem (x3 / (2 : Int32))).bind (fun q3 => (fScene_shakeL mem x3 q3 x2).bind (fun q4 => some q4)) else some mem)).bind (fun q2 => fScene_blowL_L2 n q2 x2 (x3 + (1 : Int32)))))
def fScene_blowL (mem : zkM) (a2 : Int32) : Option (zkM) :=
  (fScene_blowL_L2 500 mem a2 (0 : Int32)).bind (fun q1 => zk_let (zk_u q1 40 (Int32.toNatClampNeg (41 : Int32)) ((q1.1 40 (Int32.toNatClampNeg (41 : Int32))) + (1 : Int32))) (fun m2 => some m2))
def fScene_outBitsL_L4 : Nat → zkM → Int32 → Int32 → Option (Int32)
  | 0, _, _, _ => none
  | n + 1, mem, x2, x3 => (if (fTree_ends mem) ≤ x3 then some x2 else (fScene_isOutL mem x3).bind (fun q1 => zk_let (if (zk_b q1) = 0 then x2 else zk_let (x2 ||| ((1 : Int32) <<< (x3 &&& 31))) (fun v3 => v3)) (fun q2 => fScene_outBitsL_L4 n mem q2 (x3 + (1 : Int32)))))
def fScene_outBitsL (mem : zkM) : Option (Int32) :=
  (fScene_outBitsL_L4 500 mem (0 : Int32) (0 : Int32)).bind (fun q1 => some q1)
def fForecast_galesToFirstOut_L21 : Nat → zkM → Int32 → Int32 → Int32 → Option ((Int32 × zkM) ⊕ (zkM))
  | 0, _, _, _, _ => none
  | n + 1, mem, x3, x4, x5 => (if (60 : Int32) < x5 then some (.inr mem) else (fScene_blowL mem x3).bind (fun q1 => (fScene_outBitsL q1).bind (fun q2 => (if q2 = x4 then fForecast_galesToFirstOut_L21 n q1 x3 x4 (x5 + (1 : Int32)) else some (.inl (x5, q1))))))
def fForecast_galesToFirstOut (mem : zkM) (a3 : Int32) : Option (Int32 × zkM) :=
  zk_let (fScene_copyFromL_5 mem) (fun q1 => (fScene_outBits q1).bind (fun q2 => (fForecast_galesToFirstOut_L21 500 q1 a3 q2 (1 : Int32)).bind (fun q3 => Sum.elim (fun y => some y) (fun q4 => some ((-9 : Int32), q4)) q3)))
def fJint_numberOfTrailingZeros (a0 : Int32) : Int32 :=
  zk_let ((a0 ^^^ (-1 : Int32)) &&& (a0 - (1 : Int32))) (fun v1 => (if 0 < v1 then zk_let (if v1 ≤ (65536 : Int32) then (v1, (1 : Int32)) else zk_let ((v1.toUInt32 >>> ((16 : Int32).toUInt32 &&& Int32.toUInt32 31)).toInt32) (fun v3 => (v3, (1 : Int32) + (16 : Int32)))) (fun q2 => zk_let (if q2.1 ≤ (256 : Int32) then (q2.1, q2.2) else zk_let ((q2.1.toUInt32 >>> ((8 : Int32).toUInt32 &&& Int32.toUInt32 31)).toInt32) (fun v6 => (v6, q2.2 + (8 : Int32)))) (fun q5 => zk_let (if q5.1 ≤ (16 : Int32) then (q5.1, q5.2) else zk_let ((q5.1.toUInt32 >>> ((4 : Int32).toUInt32 &&& Int32.toUInt32 31)).toInt32) (fun v9 => (v9, q5.2 + (4 : Int32)))) (fun q8 => zk_let (if q8.1 ≤ (4 : Int32) then (q8.1, q8.2) else zk_let ((q8.1.toUInt32 >>> ((2 : Int32).toUInt32 &&& Int32.toUInt32 31)).toInt32) (fun v12 => (v12, q8.2 + (2 : Int32)))) (fun q11 => q11.2 + ((q11.1.toUInt32 >>> ((1 : Int32).toUInt32 &&& Int32.toUInt32 31)).toInt32))))) else v1 &&& (32 : Int32)))
def fForecast_endFirstOut (mem : zkM) (a3 : Int32) : Option (Int32 × zkM) :=
  (fForecast_galesToFirstOut mem a3).bind (fun q1 => (if q1.1 = (-9 : Int32) then some ((-9 : Int32), q1.2) else (fScene_outBitsL q1.2).bind (fun q2 => (fScene_outBits q1.2).bind (fun q3 => some ((fJint_numberOfTrailingZeros (q2 &&& (q3 ^^^ (-1 : Int32)))), q1.2)))))
def fTp_firstOut (mem : zkM) (a1 : Int32) (a2 : Int32) : Option (Int32 × zkM) :=
  (if (zk_b (fTp_isForce a1)) = 0 then some ((-1 : Int32), mem) else (if (zk_b (fTp_within a2 (0 : Int32) (1 : Int32))) = 0 then some ((-1 : Int32), mem) else (if a2 = 0 then (fForecast_galesToFirstOut mem a1).bind (fun q2 => some (q2.1, q2.2)) else (fForecast_endFirstOut mem a1).bind (fun q1 => some (q1.1, q1.2)))))
def fScene_hasBothEndsL (mem : zkM) (a1 : Int32) : Option (Bool) :=
  (fScene_isOutL mem ((2 : Int32) * a1)).bind (fun q1 => (if (zk_b q1) = 0 then (fScene_isOutL mem (((2 : Int32) * a1) + (1 : Int32))).bind (fun q2 => (if (zk_b q2) = 0 then some true else some false)) else some false))
def fBurden_firstUnheldL_L2 : Nat → zkM → Int32 → Option ((Int32) ⊕ (Unit))
  | 0, _, _ => none
  | n + 1, mem, x3 => (if (mem.1 46 1) ≤ x3 then some (.inr ()) else (bif zk_inb x3 6 then (if (mem.1 7 (Int32.toNatClampNeg x3)) ≤ 0 then fBurden_firstUnheldL_L2 n mem (x3 + (1 : Int32)) else (fScene_hasBothEndsL mem x3).bind (fun q2 => (if (zk_b q2) = 0 then some (.inl x3) else fBurden_firstUnheldL_L2 n mem (x3 + (1 : Int32))))) else none))
def fBurden_firstUnheldL (mem : zkM) : Option (Int32) :=
  (fBurden_firstUnheldL_L2 500 mem (0 : Int32)).bind (fun q1 => Sum.elim (fun y => some y) (fun q2 => some (-9 : Int32)) q1)
def fBurden_allHoldL (mem : zkM) : Option (Bool) :=
  (fBurden_firstTooLaden mem).bind (fun q1 => (if q1 = (-9 : Int32) then (fBurden_firstTooBent mem).bind (fun q2 => (if q2 = (-9 : Int32) then (fBurden_firstUnheldL mem).bind (fun q3 => (if q3 = (-9 : Int32) then some true else some false)) else some false)) else some false))
def fForecast_galesToFall_L14 : Nat → zkM → Int32 → Int32 → Option ((Int32 × zkM) ⊕ (zkM))
  | 0, _, _, _ => none
  | n + 1, mem, x4, x5 => (if (60 : Int32) < x5 then some (.inr mem) else (fBurden_allHoldL mem).bind (fun q1 => (if (zk_b q1) = 0 then some (.inl (x5, mem)) else (fScene_blowL mem x4).bind (fun q2 => fForecast_galesToFall_L14 n q2 x4 (x5 + (1 : Int32))))))
def fForecast_galesToFall (mem : zkM) (a4 : Int32) : Option (Int32 × zkM) :=
  zk_let (fScene_copyFromL_5 mem) (fun q1 => (fForecast_galesToFall_L14 500 q1 a4 (0 : Int32)).bind (fun q2 => Sum.elim (fun y => some y) (fun q3 => some ((-9 : Int32), q3)) q2))
def fTp_holdsFor (mem : zkM) (a1 : Int32) : Option (Int32 × zkM) :=
  (if (zk_b (fTp_isForce a1)) = 0 then some ((-1 : Int32), mem) else (fBurden_weigh mem).bind (fun q1 => (fForecast_galesToFall q1 a1).bind (fun q2 => some (q2.1, q2.2))))
def fForecast_blowAndTell_L3 : Nat → zkM → Int32 → Int32 → Int32 → Option (zkM)
  | 0, _, _, _, _ => none
  | n + 1, mem, x2, x3, x4 => (if x3 ≤ x4 then some mem else (fScene_blowL mem x2).bind (fun q1 => fForecast_blowAndTell_L3 n q1 x2 x3 (x4 + (1 : Int32))))
def fForecast_blowAndTell (mem : zkM) (a2 : Int32) (a3 : Int32) : Option (Int32 × zkM) :=
  (fForecast_blowAndTell_L3 500 mem a2 a3 (0 : Int32)).bind (fun q1 => (fScene_outBitsL q1).bind (fun q2 => some (q2, q1)))
def fForecast_lostBehind (mem : zkM) (a3 : Int32) (a4 : Int32) : Option (Int32 × zkM) :=
  zk_let (fScene_copyFromL_5 mem) (fun q1 => (fForecast_blowAndTell q1 a3 a4).bind (fun q2 => (fScene_outBits q2.2).bind (fun q3 => some (q2.1 &&& (q3 ^^^ (-1 : Int32)), q2.2))))
def fScene_doAnewL (mem : zkM) (a1 : Int32) (a2 : Int32) : Option (zkM) :=
  (bif zk_inb ((5 : Int32) + a1) 42 then zk_let (zk_u mem 40 (Int32.toNatClampNeg ((5 : Int32) + a1)) a2) (fun m2 => (bif zk_inb ((17 : Int32) + a1) 42 then zk_let (zk_u m2 40 (Int32.toNatClampNeg ((17 : Int32) + a1)) (0 : Int32)) (fun m4 => (bif zk_inb ((29 : Int32) + a1) 42 then zk_let (zk_u m4 40 (Int32.toNatClampNeg ((29 : Int32) + a1)) (0 : Int32)) (fun m6 => some m6) else none)) else none)) else none)
def fForecast_lostIfBolted_L14 : Nat → zkM → Int32 → Option (zkM)
  | 0, _, _ => none
  | n + 1, mem, x5 => (if (fTree_ends mem) ≤ x5 then some mem else (fScene_doAnewL mem x5 (3 : Int32)).bind (fun q1 => fForecast_lostIfBolted_L14 n q1 (x5 + (1 : Int32))))
def fForecast_lostIfBolted (mem : zkM) (a3 : Int32) (a4 : Int32) : Option (Int32 × zkM) :=
  zk_let (fScene_copyFromL_5 mem) (fun q1 => (fForecast_lostIfBolted_L14 500 q1 (0 : Int32)).bind (fun q2 => (fForecast_blowAndTell q2 a3 a4).bind (fun q3 => some (q3.1, q3.2))))
def fTp_bolts (mem : zkM) (a1 : Int32) (a2 : Int32) (a3 : Int32) : Option (Int32 × zkM) :=
  (if (zk_b (fTp_isForce a1)) = 0 then some ((-1 : Int32), mem) else (if (zk_b (fTp_within a2 (1 : Int32) (30 : Int32))) = 0 then some ((-1 : Int32), mem) else (if (zk_b (fTp_within a3 (0 : Int32) (1 : Int32))) = 0 then some ((-1 : Int32), mem) else (fForecast_lostBehind mem a1 a2).bind (fun q1 => (if a3 = 0 then some (q1.1, q1.2) else (fForecast_lostIfBolted q1.2 a1 a2).bind (fun q2 => some (q1.1 &&& (q2.1 ^^^ (-1 : Int32)), q2.2)))))))
def fChance_allWays_L4 : Nat → zkM → Int32 → Int64 → Int32 → Option (Int64)
  | 0, _, _, _, _ => none
  | n + 1, mem, x0, x1, x3 => (if x0 ≤ x3 then some x1 else zk_let (x1 * (6 : Int64)) (fun v1 => fChance_allWays_L4 n mem x0 v1 (x3 + (1 : Int32))))
def fChance_allWays (mem : zkM) (a0 : Int32) : Option (Int64) :=
  (fChance_allWays_L4 500 mem a0 (1 : Int64) (0 : Int32)).bind (fun q1 => some q1)
def fChance_blowOnce_L3 : Nat → zkM → Int32 → Option (zkM)
  | 0, _, _ => none
  | n + 1, mem, x4 => (if (36 : Int32) ≤ x4 then some mem else (bif zk_inb x4 36 then zk_let (zk_ul mem 43 (Int32.toNatClampNeg x4) (0 : Int64)) (fun m2 => fChance_blowOnce_L3 n m2 (x4 + (1 : Int32))) else none))
def fChance_blowOnce_L46 : Nat → zkM → Int32 → Int32 → Int32 → Option (zkM)
  | 0, _, _, _, _ => none
  | n + 1, mem, x3, x5, x6 => (if x3 ≤ (x6 + x5) then some mem else (bif zk_inb (x6 + x5) 36 then (bif zk_inb x6 36 then (bif zk_inb (x6 + x5) 36 then zk_let (zk_ul mem 43 (Int32.toNatClampNeg (x6 + x5)) ((mem.2 43 (Int32.toNatClampNeg (x6 + x5))) + (mem.2 42 (Int32.toNatClampNeg x6)))) (fun m4 => fChance_blowOnce_L46 n m4 x3 x5 (x6 + (1 : Int32))) else none) else none) else none))
def fChance_blowOnce_L27 : Nat → zkM → Int32 → Int32 → Int32 → Int32 → Option (zkM)
  | 0, _, _, _, _, _ => none
  | n + 1, mem, x1, x2, x3, x4 => (if (6 : Int32) < x4 then some mem else zk_let (fTp_growth x1 x2 x4) (fun v1 => (fChance_blowOnce_L46 500 mem x3 v1 (0 : Int32)).bind (fun q2 => fChance_blowOnce_L27 n q2 x1 x2 x3 (x4 + (1 : Int32)))))
def fChance_blowOnce (mem : zkM) (a1 : Int32) (a2 : Int32) (a3 : Int32) : Option (zkM) :=
  (fChance_blowOnce_L3 500 mem (0 : Int32)).bind (fun q1 => (fChance_blowOnce_L27 500 q1 a1 a2 a3 (1 : Int32)).bind (fun q2 => zk_let (zk_cpl q2 43 42 36) (fun m3 => some m3)))
def fChance_waysToStay_L24 : Nat → zkM → Int32 → Int32 → Option (zkM)
  | 0, _, _, _ => none
  | n + 1, mem, x2, x6 => (if (36 : Int32) ≤ x6 then some mem else zk_let (if x6 = x2 then (1 : Int64) else (0 : Int64)) (fun q1 => (bif zk_inb x6 36 then zk_let (zk_ul mem 42 (Int32.toNatClampNeg x6) q1) (fun m4 => fChance_waysToStay_L24 n m4 x2 (x6 + (1 : Int32))) else none)))
def fChance_waysToStay_L58 : Nat → zkM → Int32 → Int32 → Int32 → Int32 → Int32 → Option (zkM)
  | 0, _, _, _, _, _, _ => none
  | n + 1, mem, x1, x3, x4, x5, x6 => (if x4 ≤ x6 then some mem else (fChance_blowOnce mem x1 x3 x5).bind (fun q1 => fChance_waysToStay_L58 n q1 x1 x3 x4 x5 (x6 + (1 : Int32))))
def fChance_waysToStay_L85 : Nat → zkM → Int32 → Int64 → Int32 → Option (Int64)
  | 0, _, _, _, _ => none
  | n + 1, mem, x5, x6, x8 => (if x5 ≤ x8 then some x6 else (bif zk_inb x8 36 then zk_let (x6 + (mem.2 42 (Int32.toNatClampNeg x8))) (fun v2 => fChance_waysToStay_L85 n mem x5 v2 (x8 + (1 : Int32))) else none))
def fChance_waysToStay (mem : zkM) (a1 : Int32) (a2 : Int32) (a3 : Int32) (a4 : Int32) : Option (Int64 × zkM) :=
  (if a1 = 0 then (fChance_allWays mem a4).bind (fun q5 => some (q5, mem)) else zk_let (zk_min (fTp_givesAt a1) (36 : Int32)) (fun v1 => (fChance_waysToStay_L24 500 mem a2 (0 : Int32)).bind (fun q2 => (fChance_waysToStay_L58 500 q2 a1 a3 a4 v1 (0 : Int32)).bind (fun q3 => (fChance_waysToStay_L85 500 q3 v1 (0 : Int64) (0 : Int32)).bind (fun q4 => some (q4, q3))))))
def fChance_greatestShared_L3 : Nat → zkM → Int64 → Int64 → Int32 → Option (Int64)
  | 0, _, _, _, _ => none
  | n + 1, mem, x0, x2, x4 => (if (128 : Int32) ≤ x4 then some x0 else (if (lg_cmp x2 (0 : Int64)) = 0 then some x0 else (if x2 = 0 then none else zk_let (x0 - x0 / x2 * x2) (fun v2 => fChance_greatestShared_L3 n mem x2 v2 (x4 + (1 : Int32))))))
def fChance_greatestShared (mem : zkM) (a0 : Int64) (a1 : Int64) : Option (Int64) :=
  (fChance_greatestShared_L3 500 mem a0 a1 (0 : Int32)).bind (fun q1 => some q1)
def fTp_odds (mem : zkM) (a1 : Int32) (a2 : Int32) (a3 : Int32) (a4 : Int32) : Option (Int64 × zkM) :=
  (if (zk_b (fTp_isEnd mem a1 a2)) = 0 then some ((-1 : Int64), mem) else (if (zk_b (fTp_within a3 (0 : Int32) (6 : Int32))) = 0 then some ((-1 : Int64), mem) else (if (zk_b (fTp_within a4 (0 : Int32) (1 : Int32))) = 0 then some ((-1 : Int64), mem) else zk_let (((2 : Int32) * a1) + a2) (fun v1 => (fScene_isOut mem v1).bind (fun q2 => (if (zk_b q2) = 0 then (fChance_allWays mem a3).bind (fun q3 => (fScene_kindOf mem v1).bind (fun q4 => (fScene_wearOf mem v1).bind (fun q5 => (fTree_swayAcross mem a1).bind (fun q6 => (fChance_waysToStay mem q4 q5 q6 a3).bind (fun q7 => (fChance_greatestShared q7.2 q3 q7.1).bind (fun q8 => zk_let (if a4 = 0 then q7.1 else q3) (fun q9 => (if (lg_cmp q8 (0 : Int64)) ≤ 0 then some (q9 / (1 : Int64), q7.2) else (if q8 = 0 then none else some (q9 / q8, q7.2)))))))))) else some ((-2 : Int64), mem)))))))
def fTree_boughsOf (mem : zkM) (a1 : Int32) : Option (Int32) :=
  (bif zk_inb ((2 : Int32) * a1) 12 then (bif zk_inb (((2 : Int32) * a1) + (1 : Int32)) 12 then some (((1 : Int32) <<< ((mem.1 51 (Int32.toNatClampNeg ((2 : Int32) * a1))) &&& 31)) ||| ((1 : Int32) <<< ((mem.1 51 (Int32.toNatClampNeg (((2 : Int32) * a1) + (1 : Int32)))) &&& 31))) else none) else none)
def fLaying_reachedBy_L4 : Nat → zkM → Int32 → Int32 → Int32 → Option (Int32)
  | 0, _, _, _, _ => none
  | n + 1, mem, x1, x2, x3 => (if (mem.1 46 1) ≤ x3 then some x2 else ((if ((x1 >>> (x3 &&& 31)) &&& (1 : Int32)) = 0 then some x2 else (fTree_boughsOf mem x3).bind (fun q2 => zk_let (x2 ||| q2) (fun v3 => some v3)))).bind (fun q1 => fLaying_reachedBy_L4 n mem x1 q1 (x3 + (1 : Int32))))
def fLaying_reachedBy (mem : zkM) (a1 : Int32) : Option (Int32) :=
  (fLaying_reachedBy_L4 500 mem a1 (1 : Int32) (0 : Int32)).bind (fun q1 => some q1)
def fLaying_canFollow (mem : zkM) (a1 : Int32) (a2 : Int32) (a3 : Int32) : Option (Bool) :=
  (if ((a1 >>> (a3 &&& 31)) &&& (1 : Int32)) = 0 then (fTree_boughsOf mem a3).bind (fun q1 => (if (q1 &&& a2) = 0 then some false else some true)) else some false)
def fLaying_leastNext_L8 : Nat → zkM → Int32 → Int32 → Int32 → Option ((Int32) ⊕ (Unit))
  | 0, _, _, _, _ => none
  | n + 1, mem, x1, x2, x3 => (if (mem.1 46 1) ≤ x3 then some (.inr ()) else (fLaying_canFollow mem x1 x2 x3).bind (fun q1 => (if (zk_b q1) = 0 then fLaying_leastNext_L8 n mem x1 x2 (x3 + (1 : Int32)) else some (.inl x3))))
def fLaying_leastNext (mem : zkM) (a1 : Int32) : Option (Int32) :=
  (fLaying_reachedBy mem a1).bind (fun q1 => (fLaying_leastNext_L8 500 mem a1 q1 (0 : Int32)).bind (fun q2 => Sum.elim (fun y => some y) (fun q3 => some (-9 : Int32)) q2))
def fLaying_neverLaid_L4 : Nat → zkM → Int32 → Int32 → Option (Int32)
  | 0, _, _, _ => none
  | n + 1, mem, x2, x3 => (if (mem.1 46 1) ≤ x3 then some x2 else (fLaying_leastNext mem x2).bind (fun q1 => zk_let (if q1 = (-9 : Int32) then x2 else zk_let (x2 ||| ((1 : Int32) <<< (q1 &&& 31))) (fun v3 => v3)) (fun q2 => fLaying_neverLaid_L4 n mem q2 (x3 + (1 : Int32)))))
def fLaying_neverLaid (mem : zkM) : Option (Int32) :=
  (fLaying_neverLaid_L4 500 mem (0 : Int32) (0 : Int32)).bind (fun q1 => some ((((1 : Int32) <<< ((mem.1 46 1) &&& 31)) - (1 : Int32)) &&& (q1 ^^^ (-1 : Int32))))
def fLaying_ofFirst_L9 : Nat → zkM → Int32 → Int32 → Int32 → Int32 → Option ((Int32) ⊕ (Int32))
  | 0, _, _, _, _, _ => none
  | n + 1, mem, x2, x3, x4, x5 => (if x2 < x5 then some (.inr x4) else (if (mem.1 46 1) ≤ x5 then some (.inr x4) else (fLaying_leastNext mem x3).bind (fun q1 => (if q1 = (-9 : Int32) then some (.inl (-9 : Int32)) else zk_let (x3 ||| ((1 : Int32) <<< (q1 &&& 31))) (fun v2 => fLaying_ofFirst_L9 n mem x2 v2 q1 (x5 + (1 : Int32)))))))
def fLaying_ofFirst (mem : zkM) (a2 : Int32) : Option (Int32) :=
  (fLaying_ofFirst_L9 500 mem a2 (0 : Int32) (-9 : Int32) (0 : Int32)).bind (fun q1 => Sum.elim (fun y => some y) (fun q2 => some q2) q1)
def fLaying_howMany_L9 : Nat → zkM → Int32 → Int32 → Option (zkM)
  | 0, _, _, _ => none
  | n + 1, mem, x2, x3 => (if x2 ≤ x3 then some mem else zk_let (if x3 = 0 then true else false) (fun q1 => (bif zk_inb x3 64 then zk_let (zk_u mem 45 (Int32.toNatClampNeg x3) (zk_b q1)) (fun m4 => fLaying_howMany_L9 n m4 x2 (x3 + (1 : Int32))) else none)))
def fLaying_howMany_L52 : Nat → zkM → Int32 → Int32 → Int32 → Option (zkM)
  | 0, _, _, _, _ => none
  | n + 1, mem, x3, x4, x5 => (if (mem.1 46 1) ≤ x5 then some mem else (fLaying_canFollow mem x3 x4 x5).bind (fun q1 => ((if (zk_b q1) = 0 then some mem else (bif zk_inb (x3 ||| ((1 : Int32) <<< (x5 &&& 31))) 64 then (bif zk_inb x3 64 then (bif zk_inb (x3 ||| ((1 : Int32) <<< (x5 &&& 31))) 64 then zk_let (zk_u mem 45 (Int32.toNatClampNeg (x3 ||| ((1 : Int32) <<< (x5 &&& 31)))) ((mem.1 45 (Int32.toNatClampNeg (x3 ||| ((1 : Int32) <<< (x5 &&& 31))))) + (mem.1 45 (Int32.toNatClampNeg x3)))) (fun m6 => some m6) else none) else none) else none))).bind (fun q2 => fLaying_howMany_L52 n q2 x3 x4 (x5 + (1 : Int32)))))
def fLaying_howMany_L37 : Nat → zkM → Int32 → Int32 → Option (zkM)
  | 0, _, _, _ => none
  | n + 1, mem, x2, x3 => (if x2 ≤ x3 then some mem else (fLaying_reachedBy mem x3).bind (fun q1 => (fLaying_howMany_L52 500 mem x3 q1 (0 : Int32)).bind (fun q2 => fLaying_howMany_L37 n q2 x2 (x3 + (1 : Int32)))))
def fLaying_howMany (mem : zkM) : Option (Int32 × zkM) :=
  zk_let ((1 : Int32) <<< ((mem.1 46 1) &&& 31)) (fun v1 => (fLaying_howMany_L9 500 mem v1 (0 : Int32)).bind (fun q2 => (fLaying_howMany_L37 500 q2 v1 (0 : Int32)).bind (fun q3 => (bif zk_inb (v1 - (1 : Int32)) 64 then some (q3.1 45 (Int32.toNatClampNeg (v1 - (1 : Int32))), q3) else none))))
def fTp_orders (mem : zkM) (a1 : Int32) : Option (Int32 × zkM) :=
  (if (-1 : Int32) ≤ a1 then (if a1 = (-1 : Int32) then (fLaying_howMany mem).bind (fun q5 => some (q5.1, q5.2)) else (fLaying_neverLaid mem).bind (fun q1 => (if q1 = 0 then (if (mem.1 46 1) ≤ a1 then some ((-5 : Int32), mem) else (fLaying_ofFirst mem a1).bind (fun q2 => some (q2, mem))) else some ((-9 : Int32), mem)))) else some ((-1 : Int32), mem))
def fTp_barred (mem : zkM) : Option (Int32) :=
  (fLaying_neverLaid mem).bind (fun q1 => some q1)
def fTree_weightOf_L4 : Nat → zkM → Int32 → Int32 → Int32 → Option (Int32)
  | 0, _, _, _, _ => none
  | n + 1, mem, x1, x2, x3 => (if (mem.1 46 2) ≤ x3 then some x2 else ((if ((x1 >>> (x3 &&& 31)) &&& (1 : Int32)) = 0 then some x2 else (bif zk_inb x3 5 then zk_let (x2 + (mem.1 53 (Int32.toNatClampNeg x3))) (fun v3 => some v3) else none))).bind (fun q1 => fTree_weightOf_L4 n mem x1 q1 (x3 + (1 : Int32))))
def fTree_weightOf (mem : zkM) (a1 : Int32) : Option (Int32) :=
  (fTree_weightOf_L4 500 mem a1 (0 : Int32) (0 : Int32)).bind (fun q1 => some q1)
def fTp_fewestPulling_L10 : Nat → zkM → Int32 → Int32 → Int32 → Int32 → Int32 → Option (Int32)
  | 0, _, _, _, _, _, _ => none
  | n + 1, mem, x1, x2, x3, x4, x5 => (if ((1 : Int32) <<< ((mem.1 46 2) &&& 31)) ≤ x5 then some x3 else (fTree_weightOf mem x5).bind (fun q1 => zk_let (if (zk_b (fTp_within q1 x1 x2)) = 0 then (x3, x4) else (if x4 ≤ (fJint_bitCount x5) then (x3, x4) else zk_let (fJint_bitCount x5) (fun v3 => (x5, v3)))) (fun q2 => fTp_fewestPulling_L10 n mem x1 x2 q2.1 q2.2 (x5 + (1 : Int32)))))
def fTp_fewestPulling (mem : zkM) (a1 : Int32) (a2 : Int32) : Option (Int32) :=
  (fTp_fewestPulling_L10 500 mem a1 a2 (-9 : Int32) (6 : Int32) (1 : Int32)).bind (fun q1 => some q1)
def fTp_hoist (mem : zkM) (a1 : Int32) (a2 : Int32) : Option (Int32 × zkM) :=
  (if (zk_b (fTp_within a1 (0 : Int32) ((mem.1 46 0) - (1 : Int32)))) = 0 then some ((-1 : Int32), mem) else (if (zk_b (fTp_within a2 (1 : Int32) (60 : Int32))) = 0 then some ((-1 : Int32), mem) else (fBurden_weigh mem).bind (fun q1 => (bif zk_inb a1 8 then zk_let (a2 + ((q1.1 47 (Int32.toNatClampNeg a1)) / (4 : Int32))) (fun v3 => (bif zk_inb a1 8 then (bif zk_inb a1 8 then zk_let (((q1.1 48 (Int32.toNatClampNeg a1)) - (q1.1 8 (Int32.toNatClampNeg a1))) - a2) (fun v6 => (fTp_fewestPulling q1 v3 v6).bind (fun q7 => some (q7, q1))) else none) else none)) else none))))
def fRot_note (mem : zkM) (a1 : Int32) (a2 : Int32) (a3 : Int32) : Option (Bool × zkM) :=
  (if (mem.1 26 0) < (6 : Int32) then (bif zk_inb (mem.1 26 0) 6 then zk_let (zk_u mem 27 (Int32.toNatClampNeg (mem.1 26 0)) a1) (fun m2 => (bif zk_inb (m2.1 26 0) 6 then zk_let (zk_u m2 28 (Int32.toNatClampNeg (m2.1 26 0)) a2) (fun m4 => (bif zk_inb (m4.1 26 0) 6 then zk_let (zk_u m4 29 (Int32.toNatClampNeg (m4.1 26 0)) a3) (fun m6 => zk_let (zk_u m6 26 0 ((m6.1 26 0) + (1 : Int32))) (fun m7 => some (true, m7))) else none)) else none)) else none) else some (false, mem))
def fTp_test (mem : zkM) (a1 : Int32) (a2 : Int32) (a3 : Int32) : Option (Int32 × zkM) :=
  (if (zk_b (fTp_isPlank mem a1)) = 0 then some ((-1 : Int32), mem) else (if (zk_b (fTp_within a2 (1 : Int32) (60 : Int32))) = 0 then some ((-1 : Int32), mem) else (if (zk_b (fTp_within a3 (0 : Int32) (1 : Int32))) = 0 then some ((-1 : Int32), mem) else (fRot_note mem a1 a2 a3).bind (fun q1 => (if (zk_b q1.1) = 0 then some ((-3 : Int32), q1.2) else some (q1.2.1 26 0, q1.2))))))
def fTp_forget (mem : zkM) : Int32 × zkM :=
  zk_let (mem.1 26 0) (fun v1 => zk_let (zk_u mem 26 0 (0 : Int32)) (fun m2 => (v1, m2)))
def fRot_breaks (mem : zkM) (a1 : Int32) (a2 : Int32) (a3 : Int32) : Option (Bool) :=
  ((if a1 = a3 then (bif zk_inb a1 6 then some ((mem.1 50 (Int32.toNatClampNeg a1)) / (2 : Int32)) else none) else (bif zk_inb a1 6 then some (mem.1 50 (Int32.toNatClampNeg a1)) else none))).bind (fun q1 => (if a2 ≤ q1 then some false else some true))
def fRot_agrees_L2 : Nat → zkM → Int32 → Int32 → Option ((Bool) ⊕ (Unit))
  | 0, _, _, _ => none
  | n + 1, mem, x2, x3 => (if (mem.1 26 0) ≤ x3 then some (.inr ()) else (bif zk_inb x3 6 then (bif zk_inb x3 6 then (fRot_breaks mem (mem.1 27 (Int32.toNatClampNeg x3)) (mem.1 28 (Int32.toNatClampNeg x3)) x2).bind (fun q3 => (bif zk_inb x3 6 then zk_let (if (mem.1 29 (Int32.toNatClampNeg x3)) = (1 : Int32) then true else false) (fun q5 => (if (zk_b q3) = (zk_b q5) then fRot_agrees_L2 n mem x2 (x3 + (1 : Int32)) else some (.inl false))) else none)) else none) else none))
def fRot_agrees (mem : zkM) (a2 : Int32) : Option (Bool) :=
  (fRot_agrees_L2 500 mem a2 (0 : Int32)).bind (fun q1 => Sum.elim (fun y => some y) (fun q2 => some true) q1)
def fRot_suspects_L4 : Nat → zkM → Int32 → Int32 → Option (Int32)
  | 0, _, _, _ => none
  | n + 1, mem, x2, x3 => (if (mem.1 46 1) ≤ x3 then some x2 else (fRot_agrees mem x3).bind (fun q1 => zk_let (if (zk_b q1) = 0 then x2 else zk_let (x2 ||| ((1 : Int32) <<< (x3 &&& 31))) (fun v3 => v3)) (fun q2 => fRot_suspects_L4 n mem q2 (x3 + (1 : Int32)))))
def fRot_suspects (mem : zkM) : Option (Int32) :=
  (fRot_suspects_L4 500 mem (0 : Int32) (0 : Int32)).bind (fun q1 => some q1)
def fTp_mayBe (mem : zkM) : Option (Int32) :=
  (fRot_suspects mem).bind (fun q1 => some q1)
def fRot_leftAtWorst_L6 : Nat → zkM → Int32 → Int32 → Int32 → Int32 → Int32 → Option (Int32)
  | 0, _, _, _, _, _, _ => none
  | n + 1, mem, x1, x2, x3, x4, x5 => (if (mem.1 46 1) ≤ x5 then some x4 else ((if ((x3 >>> (x5 &&& 31)) &&& (1 : Int32)) = 0 then some x4 else (fRot_breaks mem x1 x2 x5).bind (fun q2 => (if (zk_b q2) = 0 then some x4 else some (x4 + (1 : Int32)))))).bind (fun q1 => fRot_leftAtWorst_L6 n mem x1 x2 x3 q1 (x5 + (1 : Int32))))
def fRot_leftAtWorst (mem : zkM) (a1 : Int32) (a2 : Int32) (a3 : Int32) : Option (Int32) :=
  (fRot_leftAtWorst_L6 500 mem a1 a2 a3 (0 : Int32) (0 : Int32)).bind (fun q1 => some (zk_max q1 ((fJint_bitCount a3) - q1)))
def fRot_seekTrial_L24 : Nat → zkM → Int32 → Int32 → Int32 → Int32 → Option (Int32 × zkM)
  | 0, _, _, _, _, _ => none
  | n + 1, mem, x2, x3, x4, x5 => (if (40 : Int32) < x5 then some (x3, mem) else (fRot_leftAtWorst mem x4 x5 x2).bind (fun q1 => zk_let (if x3 ≤ q1 then (x3, mem) else zk_let (zk_u mem 26 1 x4) (fun m3 => zk_let (zk_u m3 26 2 x5) (fun m4 => (q1, m4)))) (fun q2 => fRot_seekTrial_L24 n q2.2 x2 q2.1 x4 (x5 + (1 : Int32)))))
def fRot_seekTrial_L12 : Nat → zkM → Int32 → Int32 → Int32 → Option (zkM)
  | 0, _, _, _, _ => none
  | n + 1, mem, x2, x3, x4 => (if (mem.1 46 1) ≤ x4 then some mem else (fRot_seekTrial_L24 500 mem x2 x3 x4 (1 : Int32)).bind (fun q1 => fRot_seekTrial_L12 n q1.2 x2 q1.1 (x4 + (1 : Int32))))
def fRot_seekTrial (mem : zkM) : Option (zkM) :=
  (fRot_suspects mem).bind (fun q1 => (fRot_seekTrial_L12 500 mem q1 (7 : Int32) (0 : Int32)).bind (fun q2 => some q2))
def fTp_ask (mem : zkM) (a1 : Int32) : Option (Int32 × zkM) :=
  (if (zk_b (fTp_within a1 (0 : Int32) (1 : Int32))) = 0 then some ((-1 : Int32), mem) else (if (mem.1 46 1) = 0 then some ((-9 : Int32), mem) else (fRot_seekTrial mem).bind (fun q1 => (if a1 = 0 then some (q1.1 26 1, q1) else some (q1.1 26 2, q1)))))
def fTp_rateChild (mem : zkM) (a1 : Int32) : Option (Int32 × zkM) :=
  zk_let (zk_ul mem 0 12 ((mem.2 0 12) + (1 : Int64))) (fun m1 => (bif zk_inb a1 5 then some (m1.1 53 (Int32.toNatClampNeg a1), m1) else none))
def fTp_rateClimber (mem : zkM) (a1 : Int32) : Option (Int32 × zkM) :=
  zk_let (zk_ul mem 0 12 ((mem.2 0 12) + (10 : Int64))) (fun m1 => (fScene_plankUnder m1 a1).bind (fun q2 => ((if (zk_b (fTp_isPlank m1 q2)) = 0 then some (0 : Int32) else (bif zk_inb ((2 : Int32) * q2) 12 then (bif zk_inb (m1.1 51 (Int32.toNatClampNeg ((2 : Int32) * q2))) 8 then some (m1.1 47 (Int32.toNatClampNeg (m1.1 51 (Int32.toNatClampNeg ((2 : Int32) * q2))))) else none) else none))).bind (fun q3 => (fTp_rateChild m1 a1).bind (fun q7 => some (q7.1 + q3, q7.2)))))
def fTp_rateGuest (mem : zkM) (a1 : Int32) : Option (Int32 × zkM) :=
  zk_let (zk_ul mem 0 12 ((mem.2 0 12) + (100 : Int64))) (fun m1 => (fTp_rateChild m1 a1).bind (fun q2 => (bif zk_inb a1 5 then some (q2.1 - (q2.2.1 54 (Int32.toNatClampNeg a1)), q2.2) else none)))
def fTp_rateCaptain (mem : zkM) (a1 : Int32) : Option (Int32 × zkM) :=
  zk_let (zk_ul mem 0 12 ((mem.2 0 12) + (1000 : Int64))) (fun m1 => (fTp_rateClimber m1 a1).bind (fun q2 => some ((2 : Int32) * q2.1, q2.2)))
def fTp_rateNeighbour (mem : zkM) (a1 : Int32) : Option (Int32 × zkM) :=
  zk_let (zk_ul mem 0 12 ((mem.2 0 12) + (10000 : Int64))) (fun m1 => (fTp_rateGuest m1 a1).bind (fun q2 => some (q2.1 + a1, q2.2)))
def fTp_rateSister (mem : zkM) (a1 : Int32) : Option (Int32 × zkM) :=
  zk_let (zk_ul mem 0 12 ((mem.2 0 12) + (100000 : Int64))) (fun m1 => (fTp_rateChild m1 a1).bind (fun q2 => (fScene_outs q2.2).bind (fun q3 => some (q2.1 + q3, q2.2))))
def fTp_rate (mem : zkM) (a1 : Int32) (a2 : Int32) : Option (Int32 × zkM) :=
  (if (zk_b (fTp_isChild mem a2)) = 0 then some ((-1000000 : Int32), mem) else (if a1 = (0 : Int32) then (fTp_rateChild mem a2).bind (fun q2 => some (q2.1, q2.2)) else (if a1 = (1 : Int32) then (fTp_rateClimber mem a2).bind (fun q4 => some (q4.1, q4.2)) else (if a1 = (2 : Int32) then (fTp_rateGuest mem a2).bind (fun q6 => some (q6.1, q6.2)) else (if a1 = (3 : Int32) then (fTp_rateCaptain mem a2).bind (fun q8 => some (q8.1, q8.2)) else (if a1 = (4 : Int32) then (fTp_rateNeighbour mem a2).bind (fun q10 => some (q10.1, q10.2)) else (if a1 = (5 : Int32) then (fTp_rateSister mem a2).bind (fun q12 => some (q12.1, q12.2)) else some ((-1000000 : Int32), mem))))))))
def fAlbum_paint (mem : zkM) (a1 : Int32) : Option (zkM) :=
  (bif zk_inb a1 2 then zk_let (fScene_copyTo_q mem (zSX.2.2 22 (Int32.toNatClampNeg a1))) (fun q2 => (bif zk_inb a1 2 then zk_let (zk_u q2 25 (Int32.toNatClampNeg a1) (1 : Int32)) (fun m4 => some m4) else none)) else none)
def fTp_keep (mem : zkM) (a1 : Int32) : Option (Int32 × zkM) :=
  (if (zk_b (fTp_within a1 (0 : Int32) (1 : Int32))) = 0 then some ((-1 : Int32), mem) else (fAlbum_paint mem a1).bind (fun q1 => some ((fScene_gales q1), q1)))
def fAlbum_show (mem : zkM) (a1 : Int32) : Option (Bool × zkM) :=
  (bif zk_inb a1 2 then (if (mem.1 25 (Int32.toNatClampNeg a1)) = 0 then some (false, mem) else (bif zk_inb a1 2 then zk_let (fScene_copyFrom_q mem (zSX.2.2 22 (Int32.toNatClampNeg a1))) (fun q3 => some (true, q3)) else none)) else none)
def fPast_lose (mem : zkM) : zkM :=
  zk_let (zk_u mem 9 1 (0 : Int32)) (fun m1 => zk_let (zk_u m1 9 2 (0 : Int32)) (fun m2 => m2))
def fTp_back (mem : zkM) (a1 : Int32) : Option (Int32 × zkM) :=
  (if (zk_b (fTp_within a1 (0 : Int32) (1 : Int32))) = 0 then some ((-1 : Int32), mem) else (fAlbum_show mem a1).bind (fun q1 => (if (zk_b q1.1) = 0 then some ((-2 : Int32), q1.2) else zk_let (fPast_lose q1.2) (fun q2 => some ((fScene_gales q2), q2)))))
def fTp_count (mem : zkM) (a1 : Int32) : Option (Int32) :=
  (if a1 = (0 : Int32) then some (mem.1 46 0) else (if a1 = (1 : Int32) then some (mem.1 46 1) else (if a1 = (2 : Int32) then some (mem.1 46 2) else (if a1 = (3 : Int32) then some (mem.1 26 0) else (if a1 = (4 : Int32) then (fScene_outs mem).bind (fun q6 => some q6) else (if a1 = (5 : Int32) then some (mem.1 1 1) else some (-1 : Int32)))))))
def fTp_trace (mem : zkM) : Int64 :=
  mem.2 0 12
def fMd_in (a0 : Int32) (a1 : Int32) (a2 : Int32) : Bool :=
  (if a0 < a1 then false else (if a2 < a0 then false else true))
def fMd_type (mem : zkM) (a1 : Int32) : Option (Int32 × zkM) :=
  (if (zk_b (fMd_in a1 (0 : Int32) (255 : Int32))) = 0 then some ((-1 : Int32), mem) else (if (mem.1 0 15) = (200 : Int32) then some ((-3 : Int32), mem) else (bif zk_inb (mem.1 0 15) 200 then zk_let (zk_u mem 9 (Int32.toNatClampNeg (mem.1 0 15)) a1) (fun m2 => zk_let (zk_u m2 0 15 ((m2.1 0 15) + (1 : Int32))) (fun m3 => some (m3.1 0 15, m3))) else none)))
def fMd_clear (mem : zkM) : Int32 × zkM :=
  zk_let (mem.1 0 15) (fun v1 => zk_let (zk_u mem 0 15 (0 : Int32)) (fun m2 => (v1, m2)))
def fMd_letterAt (mem : zkM) (a1 : Int32) : Option (Int32) :=
  (if (mem.1 0 15) ≤ a1 then some (-1 : Int32) else (bif zk_inb a1 200 then some (mem.1 9 (Int32.toNatClampNeg a1)) else none))
def fMd_next_L0 : Nat → zkM → Option (zkM)
  | 0, _ => none
  | n + 1, mem => (fMd_letterAt mem (mem.1 0 16)).bind (fun q1 => (if q1 = (32 : Int32) then zk_let (zk_u mem 0 16 ((mem.1 0 16) + (1 : Int32))) (fun m2 => fMd_next_L0 n m2 ) else some mem))
def fMd_next_L124 : Nat → zkM → Option (zkM)
  | 0, _ => none
  | n + 1, mem => (fMd_letterAt mem (mem.1 0 16)).bind (fun q1 => (if (zk_b (fMd_in q1 (48 : Int32) (57 : Int32))) = 0 then some mem else ((if (2 : Int32) ≤ ((mem.1 0 16) - (mem.1 0 17)) then some (mem.1 0 19) else (fMd_letterAt mem (mem.1 0 16)).bind (fun q3 => some ((((10 : Int32) * (mem.1 0 19)) + q3) - (48 : Int32))))).bind (fun q2 => zk_let (zk_u mem 0 19 q2) (fun m5 => zk_let (zk_u m5 0 16 ((m5.1 0 16) + (1 : Int32))) (fun m6 => fMd_next_L124 n m6 )))))
def fMd_next (mem : zkM) : Option (zkM) :=
  (fMd_next_L0 500 mem ).bind (fun q1 => zk_let (zk_u q1 0 17 (q1.1 0 16)) (fun m2 => (fMd_letterAt m2 (m2.1 0 16)).bind (fun q3 => (if 0 ≤ q3 then zk_let (zk_u m2 0 16 ((m2.1 0 16) + (1 : Int32))) (fun m4 => zk_let (zk_u m4 0 19 q3) (fun m5 => zk_let (if q3 = (98 : Int32) then (1 : Int32) else (if q3 = (112 : Int32) then (1 : Int32) else (if q3 = (99 : Int32) then (1 : Int32) else (if q3 = (59 : Int32) then (3 : Int32) else (4 : Int32))))) (fun q6 => zk_let (zk_u m5 0 18 q6) (fun m11 => (if (zk_b (fMd_in q3 (48 : Int32) (57 : Int32))) = 0 then some m11 else zk_let (zk_u m11 0 19 (q3 - (48 : Int32))) (fun m12 => (fMd_next_L124 500 m12 ).bind (fun q13 => (if (3 : Int32) ≤ ((q13.1 0 16) - (q13.1 0 17)) then zk_let (zk_u q13 0 18 (4 : Int32)) (fun m14 => some m14) else (if q3 = (48 : Int32) then (if ((q13.1 0 16) - (q13.1 0 17)) = (1 : Int32) then zk_let (zk_u q13 0 18 (2 : Int32)) (fun m17 => some m17) else zk_let (zk_u q13 0 18 (4 : Int32)) (fun m16 => some m16)) else zk_let (zk_u q13 0 18 (2 : Int32)) (fun m15 => some m15)))))))))) else zk_let (zk_u m2 0 18 (0 : Int32)) (fun m22 => some m22)))))
def fMd_must (mem : zkM) (a1 : Bool) : Option (zkM) :=
  zk_let (if (mem.1 0 20) = 0 then (if (zk_b a1) = 0 then true else false) else true) (fun q1 => zk_let (zk_u mem 0 20 (zk_b q1)) (fun m4 => (if (m4.1 0 20) = 0 then (fMd_next m4).bind (fun q5 => some q5) else some m4)))
def fMd_readInto_12 (mem : zkM) (a2 : Int32) (a3 : Int32) (a4 : Int32) : Option (Int32 × zkM) :=
  zk_let (mem.1 0 19) (fun v1 => zk_let (if (mem.1 0 18) = (2 : Int32) then (if (zk_b (fMd_in v1 a3 a4)) = 0 then false else true) else false) (fun q2 => (fMd_must mem q2).bind (fun q5 => (if (q5.1 0 20) = 0 then (bif zk_inb a2 10 then zk_let (zk_u q5 12 (Int32.toNatClampNeg a2) v1) (fun m7 => some (v1, m7)) else none) else some (v1, q5)))))
def fMd_readChild (mem : zkM) : Option (zkM) :=
  zk_let (if (5 : Int32) ≤ (mem.1 0 25) then false else true) (fun q1 => (fMd_must mem q1).bind (fun q3 => (if (q3.1 0 20) = 0 then (fMd_readInto_12 q3 ((2 : Int32) * (q3.1 0 25)) (1 : Int32) (9 : Int32)).bind (fun q4 => (fMd_readInto_12 q4.2 (((2 : Int32) * (q4.2.1 0 25)) + (1 : Int32)) (0 : Int32) (9 : Int32)).bind (fun q5 => zk_let (if (q5.2.1 0 18) = (3 : Int32) then true else false) (fun q6 => (fMd_must q5.2 q6).bind (fun q8 => zk_let (zk_u q8 0 25 ((q8.1 0 25) + (1 : Int32))) (fun m9 => some m9))))) else some q3)))
def fMd_readInto_11 (mem : zkM) (a2 : Int32) (a3 : Int32) (a4 : Int32) : Option (Int32 × zkM) :=
  zk_let (mem.1 0 19) (fun v1 => zk_let (if (mem.1 0 18) = (2 : Int32) then (if (zk_b (fMd_in v1 a3 a4)) = 0 then false else true) else false) (fun q2 => (fMd_must mem q2).bind (fun q5 => (if (q5.1 0 20) = 0 then (bif zk_inb a2 30 then zk_let (zk_u q5 11 (Int32.toNatClampNeg a2) v1) (fun m7 => some (v1, m7)) else none) else some (v1, q5)))))
def fMd_mayJoin (mem : zkM) (a1 : Int32) (a2 : Int32) : Option (Bool) :=
  (bif zk_inb ((3 : Int32) * a1) 24 then (bif zk_inb ((3 : Int32) * a2) 24 then zk_let ((mem.1 10 (Int32.toNatClampNeg ((3 : Int32) * a1))) - (mem.1 10 (Int32.toNatClampNeg ((3 : Int32) * a2)))) (fun v3 => (if a1 = a2 then some false else (if (zk_b (fMd_in v3 (-2 : Int32) (2 : Int32))) = 0 then some false else some true))) else none) else none)
def fMd_readPlank (mem : zkM) : Option (zkM) :=
  zk_let (if (6 : Int32) ≤ (mem.1 0 23) then false else true) (fun q1 => (fMd_must mem q1).bind (fun q3 => (if (q3.1 0 20) = 0 then zk_let ((5 : Int32) * (q3.1 0 23)) (fun v4 => (fMd_readInto_11 q3 v4 (0 : Int32) ((q3.1 0 21) - (1 : Int32))).bind (fun q5 => zk_let (q5.2.1 0 19) (fun v6 => ((if (q5.2.1 0 18) = (2 : Int32) then (if (zk_b (fMd_in v6 (0 : Int32) ((q5.2.1 0 21) - (1 : Int32)))) = 0 then some false else (fMd_mayJoin q5.2 q5.1 v6).bind (fun q8 => (if (zk_b q8) = 0 then some false else some true))) else some false)).bind (fun q7 => (fMd_must q5.2 q7).bind (fun q12 => (bif zk_inb (v4 + (1 : Int32)) 30 then zk_let (zk_u q12 11 (Int32.toNatClampNeg (v4 + (1 : Int32))) v6) (fun m14 => (fMd_readInto_11 m14 (v4 + (2 : Int32)) (1 : Int32) (40 : Int32)).bind (fun q15 => (fMd_readInto_11 q15.2 (v4 + (3 : Int32)) (0 : Int32) (3 : Int32)).bind (fun q16 => (fMd_readInto_11 q16.2 (v4 + (4 : Int32)) (0 : Int32) (3 : Int32)).bind (fun q17 => zk_let (if (q17.2.1 0 18) = (3 : Int32) then true else false) (fun q18 => (fMd_must q17.2 q18).bind (fun q20 => zk_let (zk_u q20 0 23 ((q20.1 0 23) + (1 : Int32))) (fun m21 => some m21))))))) else none)))))) else some q3)))
def fMd_readInto_10 (mem : zkM) (a2 : Int32) (a3 : Int32) (a4 : Int32) : Option (Int32 × zkM) :=
  zk_let (mem.1 0 19) (fun v1 => zk_let (if (mem.1 0 18) = (2 : Int32) then (if (zk_b (fMd_in v1 a3 a4)) = 0 then false else true) else false) (fun q2 => (fMd_must mem q2).bind (fun q5 => (if (q5.1 0 20) = 0 then (bif zk_inb a2 24 then zk_let (zk_u q5 10 (Int32.toNatClampNeg a2) v1) (fun m7 => some (v1, m7)) else none) else some (v1, q5)))))
def fMd_readBough (mem : zkM) : Option (zkM) :=
  zk_let (if (8 : Int32) ≤ (mem.1 0 21) then false else true) (fun q1 => (fMd_must mem q1).bind (fun q3 => (if (q3.1 0 20) = 0 then zk_let ((3 : Int32) * (q3.1 0 21)) (fun v4 => (fMd_readInto_10 q3 v4 (0 : Int32) (20 : Int32)).bind (fun q5 => (fMd_readInto_10 q5.2 (v4 + (1 : Int32)) (1 : Int32) (60 : Int32)).bind (fun q6 => (fMd_readInto_10 q6.2 (v4 + (2 : Int32)) (0 : Int32) (3 : Int32)).bind (fun q7 => zk_let (if (q7.2.1 0 18) = (3 : Int32) then true else false) (fun q8 => (fMd_must q7.2 q8).bind (fun q10 => zk_let (zk_u q10 0 21 ((q10.1 0 21) + (1 : Int32))) (fun m11 => some m11))))))) else some q3)))
def fMd_readItem (mem : zkM) : Option (zkM) :=
  zk_let (if (mem.1 0 18) = (1 : Int32) then mem.1 0 19 else (0 : Int32)) (fun q1 => (if q1 = (98 : Int32) then (fMd_readBough mem).bind (fun q8 => some q8) else (if q1 = (112 : Int32) then (fMd_readPlank mem).bind (fun q6 => some q6) else (if q1 = (99 : Int32) then (fMd_readChild mem).bind (fun q4 => some q4) else zk_let (zk_u mem 0 20 (1 : Int32)) (fun m3 => some m3)))))
def fMd_tree_L31 : Nat → zkM → Int32 → Option (Int32 × zkM)
  | 0, _, _ => none
  | n + 1, mem, x1 => (if (mem.1 0 18) = 0 then some (x1, mem) else (if (mem.1 0 20) = 0 then (fMd_readItem mem).bind (fun q1 => fMd_tree_L31 n q1 (x1 + (1 : Int32))) else some (x1, mem)))
def fMd_tree_L96 : Nat → zkM → Int32 → Option (zkM)
  | 0, _, _ => none
  | n + 1, mem, x2 => (if (42 : Int32) ≤ x2 then some mem else (bif zk_inb x2 42 then zk_let (zk_u mem 4 (Int32.toNatClampNeg x2) (0 : Int32)) (fun m2 => fMd_tree_L96 n m2 (x2 + (1 : Int32))) else none))
def fMd_tree_L117 : Nat → zkM → Int32 → Option (zkM)
  | 0, _, _ => none
  | n + 1, mem, x2 => (if (24 : Int32) ≤ x2 then some mem else (bif zk_inb x2 24 then (bif zk_inb x2 24 then zk_let (zk_u mem 1 (Int32.toNatClampNeg x2) (mem.1 10 (Int32.toNatClampNeg x2))) (fun m3 => fMd_tree_L117 n m3 (x2 + (1 : Int32))) else none) else none))
def fMd_tree_L153 : Nat → zkM → Int32 → Int32 → Option (zkM)
  | 0, _, _, _ => none
  | n + 1, mem, x2, x3 => (if (3 : Int32) ≤ x3 then some mem else (bif zk_inb (((5 : Int32) * x2) + x3) 30 then (bif zk_inb (((3 : Int32) * x2) + x3) 18 then zk_let (zk_u mem 2 (Int32.toNatClampNeg (((3 : Int32) * x2) + x3)) (mem.1 11 (Int32.toNatClampNeg (((5 : Int32) * x2) + x3)))) (fun m3 => fMd_tree_L153 n m3 x2 (x3 + (1 : Int32))) else none) else none))
def fMd_tree_L143 : Nat → zkM → Int32 → Option (zkM)
  | 0, _, _ => none
  | n + 1, mem, x2 => (if (mem.1 0 2) ≤ x2 then some mem else (fMd_tree_L153 500 mem x2 (0 : Int32)).bind (fun q1 => (bif zk_inb (((5 : Int32) * x2) + (3 : Int32)) 30 then (bif zk_inb ((6 : Int32) + ((6 : Int32) * x2)) 42 then zk_let (zk_u q1 4 (Int32.toNatClampNeg ((6 : Int32) + ((6 : Int32) * x2))) (q1.1 11 (Int32.toNatClampNeg (((5 : Int32) * x2) + (3 : Int32))))) (fun m4 => (bif zk_inb (((5 : Int32) * x2) + (4 : Int32)) 30 then (bif zk_inb (((6 : Int32) + ((6 : Int32) * x2)) + (3 : Int32)) 42 then zk_let (zk_u m4 4 (Int32.toNatClampNeg (((6 : Int32) + ((6 : Int32) * x2)) + (3 : Int32))) (m4.1 11 (Int32.toNatClampNeg (((5 : Int32) * x2) + (4 : Int32))))) (fun m7 => fMd_tree_L143 n m7 (x2 + (1 : Int32))) else none) else none)) else none) else none)))
def fMd_tree_L238 : Nat → zkM → Int32 → Option (zkM)
  | 0, _, _ => none
  | n + 1, mem, x2 => (if (10 : Int32) ≤ x2 then some mem else (bif zk_inb x2 10 then (bif zk_inb x2 10 then zk_let (zk_u mem 3 (Int32.toNatClampNeg x2) (mem.1 12 (Int32.toNatClampNeg x2))) (fun m3 => fMd_tree_L238 n m3 (x2 + (1 : Int32))) else none) else none))
def fMd_tree_L264 : Nat → zkM → Int32 → Option (zkM)
  | 0, _, _ => none
  | n + 1, mem, x2 => (if (5 : Int32) ≤ x2 then some mem else (bif zk_inb ((1 : Int32) + x2) 42 then zk_let (zk_u mem 4 (Int32.toNatClampNeg ((1 : Int32) + x2)) (-9 : Int32)) (fun m2 => fMd_tree_L264 n m2 (x2 + (1 : Int32))) else none))
def fMd_tree (mem : zkM) : Option (Int32 × zkM) :=
  zk_let (zk_u mem 0 16 (0 : Int32)) (fun m1 => zk_let (zk_u m1 0 20 (0 : Int32)) (fun m2 => zk_let (zk_u m2 0 21 (0 : Int32)) (fun m3 => zk_let (zk_u m3 0 23 (0 : Int32)) (fun m4 => zk_let (zk_u m4 0 25 (0 : Int32)) (fun m5 => (fMd_next m5).bind (fun q6 => (fMd_tree_L31 500 q6 (0 : Int32)).bind (fun q7 => (if (q7.2.1 0 20) = 0 then zk_let (zk_u q7.2 0 0 (q7.2.1 0 21)) (fun m8 => zk_let (zk_u m8 0 2 (m8.1 0 23)) (fun m9 => zk_let (zk_u m9 0 4 (m9.1 0 25)) (fun m10 => (fMd_tree_L96 500 m10 (0 : Int32)).bind (fun q11 => (fMd_tree_L117 500 q11 (0 : Int32)).bind (fun q12 => (fMd_tree_L143 500 q12 (0 : Int32)).bind (fun q13 => (fMd_tree_L238 500 q13 (0 : Int32)).bind (fun q14 => (fMd_tree_L264 500 q14 (0 : Int32)).bind (fun q15 => zk_let (zk_u q15 0 8 (0 : Int32)) (fun m16 => zk_let (zk_u m16 0 11 (0 : Int32)) (fun m17 => zk_let (zk_u m17 7 (Int32.toNatClampNeg (0 : Int32)) (0 : Int32)) (fun m18 => zk_let (zk_u m18 7 (Int32.toNatClampNeg (1 : Int32)) (0 : Int32)) (fun m19 => zk_let (zk_u m19 0 15 (0 : Int32)) (fun m20 => some (q7.1, m20)))))))))))))) else some ((-10 : Int32) - (q7.2.1 0 17), q7.2)))))))))
def fMd_isBough (mem : zkM) (a1 : Int32) : Bool :=
  (fMd_in a1 (0 : Int32) ((mem.1 0 0) - (1 : Int32)))
def fMd_layNow_L2 : Nat → zkM → Int32 → Option (zkM)
  | 0, _, _ => none
  | n + 1, mem, x1 => (if (5 : Int32) ≤ x1 then some mem else (bif zk_inb ((1 : Int32) + x1) 42 then (bif zk_inb x1 5 then zk_let (zk_u mem 13 (Int32.toNatClampNeg x1) (mem.1 4 (Int32.toNatClampNeg ((1 : Int32) + x1)))) (fun m3 => fMd_layNow_L2 n m3 (x1 + (1 : Int32))) else none) else none))
def fMd_layNow (mem : zkM) : Option (zkM) :=
  (fMd_layNow_L2 500 mem (0 : Int32)).bind (fun q1 => some q1)
def fMd_layLoads_L2 : Nat → zkM → Int32 → Option (zkM)
  | 0, _, _ => none
  | n + 1, mem, x1 => (if (6 : Int32) ≤ x1 then some mem else (bif zk_inb x1 6 then zk_let (zk_u mem 14 (Int32.toNatClampNeg x1) (0 : Int32)) (fun m2 => fMd_layLoads_L2 n m2 (x1 + (1 : Int32))) else none))
def fMd_layLoads_L23 : Nat → zkM → Int32 → Option (zkM)
  | 0, _, _ => none
  | n + 1, mem, x1 => (if (8 : Int32) ≤ x1 then some mem else (bif zk_inb x1 8 then zk_let (zk_u mem 15 (Int32.toNatClampNeg x1) (0 : Int32)) (fun m2 => fMd_layLoads_L23 n m2 (x1 + (1 : Int32))) else none))
def fMd_layLoads_L44 : Nat → zkM → Int32 → Option (zkM)
  | 0, _, _ => none
  | n + 1, mem, x1 => (if (mem.1 0 4) ≤ x1 then some mem else (bif zk_inb x1 5 then ((if (mem.1 13 (Int32.toNatClampNeg x1)) = (-9 : Int32) then some mem else (bif zk_inb x1 5 then (bif zk_inb (mem.1 13 (Int32.toNatClampNeg x1)) 6 then (bif zk_inb ((2 : Int32) * x1) 10 then (bif zk_inb (mem.1 13 (Int32.toNatClampNeg x1)) 6 then zk_let (zk_u mem 14 (Int32.toNatClampNeg (mem.1 13 (Int32.toNatClampNeg x1))) ((mem.1 14 (Int32.toNatClampNeg (mem.1 13 (Int32.toNatClampNeg x1)))) + (mem.1 3 (Int32.toNatClampNeg ((2 : Int32) * x1))))) (fun m7 => some m7) else none) else none) else none) else none))).bind (fun q2 => fMd_layLoads_L44 n q2 (x1 + (1 : Int32))) else none))
def fMd_layLoads_L93 : Nat → zkM → Int32 → Option (zkM)
  | 0, _, _ => none
  | n + 1, mem, x1 => (if (mem.1 0 2) ≤ x1 then some mem else (bif zk_inb ((3 : Int32) * x1) 18 then (bif zk_inb (mem.1 2 (Int32.toNatClampNeg ((3 : Int32) * x1))) 8 then (bif zk_inb x1 6 then (bif zk_inb (mem.1 2 (Int32.toNatClampNeg ((3 : Int32) * x1))) 8 then zk_let (zk_u mem 15 (Int32.toNatClampNeg (mem.1 2 (Int32.toNatClampNeg ((3 : Int32) * x1)))) ((mem.1 15 (Int32.toNatClampNeg (mem.1 2 (Int32.toNatClampNeg ((3 : Int32) * x1))))) + (((mem.1 14 (Int32.toNatClampNeg x1)) + (1 : Int32)) / (2 : Int32)))) (fun m5 => (bif zk_inb (((3 : Int32) * x1) + (1 : Int32)) 18 then (bif zk_inb (m5.1 2 (Int32.toNatClampNeg (((3 : Int32) * x1) + (1 : Int32)))) 8 then (bif zk_inb x1 6 then (bif zk_inb (m5.1 2 (Int32.toNatClampNeg (((3 : Int32) * x1) + (1 : Int32)))) 8 then zk_let (zk_u m5 15 (Int32.toNatClampNeg (m5.1 2 (Int32.toNatClampNeg (((3 : Int32) * x1) + (1 : Int32))))) ((m5.1 15 (Int32.toNatClampNeg (m5.1 2 (Int32.toNatClampNeg (((3 : Int32) * x1) + (1 : Int32)))))) + ((m5.1 14 (Int32.toNatClampNeg x1)) / (2 : Int32)))) (fun m10 => fMd_layLoads_L93 n m10 (x1 + (1 : Int32))) else none) else none) else none) else none)) else none) else none) else none) else none))
def fMd_layLoads (mem : zkM) : Option (zkM) :=
  (fMd_layLoads_L2 500 mem (0 : Int32)).bind (fun q1 => (fMd_layLoads_L23 500 q1 (0 : Int32)).bind (fun q2 => (fMd_layLoads_L44 500 q2 (0 : Int32)).bind (fun q3 => (fMd_layLoads_L93 500 q3 (0 : Int32)).bind (fun q4 => some q4))))
def fMd_layLoadsNow (mem : zkM) : Option (zkM) :=
  (fMd_layNow mem).bind (fun q1 => (fMd_layLoads q1).bind (fun q2 => some q2))
def fMd_bough (mem : zkM) (a1 : Int32) (a2 : Int32) : Option (Int32 × zkM) :=
  (if (zk_b (fMd_isBough mem a1)) = 0 then some ((-1 : Int32), mem) else (if (zk_b (fMd_in a2 (0 : Int32) (3 : Int32))) = 0 then some ((-1 : Int32), mem) else (fMd_layLoadsNow mem).bind (fun q1 => (if a2 = (3 : Int32) then (bif zk_inb a1 8 then some (q1.1 15 (Int32.toNatClampNeg a1), q1) else none) else (bif zk_inb (((3 : Int32) * a1) + a2) 24 then some (q1.1 1 (Int32.toNatClampNeg (((3 : Int32) * a1) + a2)), q1) else none)))))
def fMd_isPlank (mem : zkM) (a1 : Int32) : Bool :=
  (fMd_in a1 (0 : Int32) ((mem.1 0 2) - (1 : Int32)))
def fMd_plank (mem : zkM) (a1 : Int32) (a2 : Int32) : Option (Int32 × zkM) :=
  (if (zk_b (fMd_isPlank mem a1)) = 0 then some ((-1 : Int32), mem) else (if (zk_b (fMd_in a2 (0 : Int32) (3 : Int32))) = 0 then some ((-1 : Int32), mem) else (fMd_layLoadsNow mem).bind (fun q1 => (if a2 = (3 : Int32) then (bif zk_inb a1 6 then some (q1.1 14 (Int32.toNatClampNeg a1), q1) else none) else (bif zk_inb (((3 : Int32) * a1) + a2) 18 then some (q1.1 2 (Int32.toNatClampNeg (((3 : Int32) * a1) + a2)), q1) else none)))))
def fMd_endAt (a0 : Int32) (a1 : Int32) : Int32 :=
  ((6 : Int32) + ((6 : Int32) * a0)) + ((3 : Int32) * a1)
def fMd_end (mem : zkM) (a1 : Int32) (a2 : Int32) (a3 : Int32) : Option (Int32) :=
  (if (zk_b (fMd_isPlank mem a1)) = 0 then some (-1 : Int32) else (if (zk_b (fMd_in a2 (0 : Int32) (1 : Int32))) = 0 then some (-1 : Int32) else (if (zk_b (fMd_in a3 (0 : Int32) (2 : Int32))) = 0 then some (-1 : Int32) else (bif zk_inb ((fMd_endAt a1 a2) + a3) 42 then some (mem.1 4 (Int32.toNatClampNeg ((fMd_endAt a1 a2) + a3))) else none))))
def fMd_isChild (mem : zkM) (a1 : Int32) : Bool :=
  (fMd_in a1 (0 : Int32) ((mem.1 0 4) - (1 : Int32)))
def fMd_child (mem : zkM) (a1 : Int32) (a2 : Int32) : Option (Int32) :=
  (if (zk_b (fMd_isChild mem a1)) = 0 then some (-1 : Int32) else (if (zk_b (fMd_in a2 (0 : Int32) (2 : Int32))) = 0 then some (-1 : Int32) else (if a2 = (2 : Int32) then (bif zk_inb ((1 : Int32) + a1) 42 then some (mem.1 4 (Int32.toNatClampNeg ((1 : Int32) + a1))) else none) else (bif zk_inb (((2 : Int32) * a1) + a2) 10 then some (mem.1 3 (Int32.toNatClampNeg (((2 : Int32) * a1) + a2))) else none))))
def fMd_layEnds_L2 : Nat → zkM → Int32 → Option (zkM)
  | 0, _, _ => none
  | n + 1, mem, x1 => (if (36 : Int32) ≤ x1 then some mem else (bif zk_inb ((6 : Int32) + x1) 42 then (bif zk_inb x1 36 then zk_let (zk_u mem 16 (Int32.toNatClampNeg x1) (mem.1 4 (Int32.toNatClampNeg ((6 : Int32) + x1)))) (fun m3 => fMd_layEnds_L2 n m3 (x1 + (1 : Int32))) else none) else none))
def fMd_layEnds (mem : zkM) : Option (zkM) :=
  (fMd_layEnds_L2 500 mem (0 : Int32)).bind (fun q1 => some q1)
def fMd_firstHeavy_L10 : Nat → zkM → Int32 → Int32 → Option (Int32)
  | 0, _, _, _ => none
  | n + 1, mem, x1, x2 => (if x2 < 0 then some x1 else (bif zk_inb x2 6 then (bif zk_inb (((3 : Int32) * x2) + (2 : Int32)) 18 then zk_let (if (mem.1 14 (Int32.toNatClampNeg x2)) ≤ (mem.1 2 (Int32.toNatClampNeg (((3 : Int32) * x2) + (2 : Int32)))) then x1 else x2) (fun q3 => fMd_firstHeavy_L10 n mem q3 (x2 + (-1 : Int32))) else none) else none))
def fMd_firstHeavy (mem : zkM) : Option (Int32) :=
  zk_let ((mem.1 0 2) - (1 : Int32)) (fun v1 => (fMd_firstHeavy_L10 500 mem (-9 : Int32) v1).bind (fun q2 => some q2))
def fMd_firstWeak_L10 : Nat → zkM → Int32 → Int32 → Option (Int32)
  | 0, _, _, _ => none
  | n + 1, mem, x1, x2 => (if x2 < 0 then some x1 else (bif zk_inb x2 8 then (bif zk_inb (((3 : Int32) * x2) + (1 : Int32)) 24 then zk_let (if (mem.1 15 (Int32.toNatClampNeg x2)) ≤ (mem.1 1 (Int32.toNatClampNeg (((3 : Int32) * x2) + (1 : Int32)))) then x1 else x2) (fun q3 => fMd_firstWeak_L10 n mem q3 (x2 + (-1 : Int32))) else none) else none))
def fMd_firstWeak (mem : zkM) : Option (Int32) :=
  zk_let ((mem.1 0 0) - (1 : Int32)) (fun v1 => (fMd_firstWeak_L10 500 mem (-9 : Int32) v1).bind (fun q2 => some q2))
def fMd_firstLost_L10 : Nat → zkM → Int32 → Int32 → Option (Int32)
  | 0, _, _, _ => none
  | n + 1, mem, x1, x2 => (if x2 < 0 then some x1 else (bif zk_inb x2 6 then ((if (mem.1 14 (Int32.toNatClampNeg x2)) ≤ 0 then some x1 else (bif zk_inb (((6 : Int32) * x2) + (2 : Int32)) 36 then (bif zk_inb (((6 : Int32) * x2) + (5 : Int32)) 36 then (if ((mem.1 16 (Int32.toNatClampNeg (((6 : Int32) * x2) + (2 : Int32)))) + (mem.1 16 (Int32.toNatClampNeg (((6 : Int32) * x2) + (5 : Int32))))) ≤ 0 then some x1 else some x2) else none) else none))).bind (fun q2 => fMd_firstLost_L10 n mem q2 (x2 + (-1 : Int32))) else none))
def fMd_firstLost (mem : zkM) : Option (Int32) :=
  zk_let ((mem.1 0 2) - (1 : Int32)) (fun v1 => (fMd_firstLost_L10 500 mem (-9 : Int32) v1).bind (fun q2 => some q2))
def fMd_holdsAll (mem : zkM) : Option (Bool) :=
  (fMd_firstHeavy mem).bind (fun q1 => (if q1 = (-9 : Int32) then (fMd_firstWeak mem).bind (fun q2 => (if q2 = (-9 : Int32) then (fMd_firstLost mem).bind (fun q3 => (if q3 = (-9 : Int32) then some true else some false)) else some false)) else some false))
def fMd_now (mem : zkM) (a1 : Int32) : Option (Int32 × zkM) :=
  (if (zk_b (fMd_in a1 (0 : Int32) (5 : Int32))) = 0 then some ((-1 : Int32), mem) else (fMd_layLoadsNow mem).bind (fun q1 => (fMd_layEnds q1).bind (fun q2 => (if a1 = (0 : Int32) then (fMd_holdsAll q2).bind (fun q4 => (if (zk_b q4) = 0 then some ((0 : Int32), q2) else some ((1 : Int32), q2))) else (if a1 = (1 : Int32) then (fMd_firstHeavy q2).bind (fun q7 => some (q7, q2)) else (if a1 = (2 : Int32) then (fMd_firstWeak q2).bind (fun q9 => some (q9, q2)) else (if a1 = (3 : Int32) then (fMd_firstLost q2).bind (fun q11 => some (q11, q2)) else (if a1 = (4 : Int32) then some (q2.1 4 (Int32.toNatClampNeg (0 : Int32)), q2) else some (q2.1 0 8, q2)))))))))
def fMd_remembers_L11 : Nat → zkM → Int32 → Option (zkM)
  | 0, _, _ => none
  | n + 1, mem, x1 => (if (378 : Int32) ≤ x1 then some mem else (bif zk_inb (x1 + (42 : Int32)) 420 then (bif zk_inb x1 420 then zk_let (zk_u mem 5 (Int32.toNatClampNeg x1) (mem.1 5 (Int32.toNatClampNeg (x1 + (42 : Int32))))) (fun m3 => fMd_remembers_L11 n m3 (x1 + (1 : Int32))) else none) else none))
def fMd_remembers_L51 : Nat → zkM → Int32 → Option (zkM)
  | 0, _, _ => none
  | n + 1, mem, x1 => (if (42 : Int32) ≤ x1 then some mem else (bif zk_inb x1 42 then (bif zk_inb (((42 : Int32) * (mem.1 0 8)) + x1) 420 then zk_let (zk_u mem 5 (Int32.toNatClampNeg (((42 : Int32) * (mem.1 0 8)) + x1)) (mem.1 4 (Int32.toNatClampNeg x1))) (fun m3 => fMd_remembers_L51 n m3 (x1 + (1 : Int32))) else none) else none))
def fMd_remembers (mem : zkM) : Option (zkM) :=
  ((if (mem.1 0 8) = (10 : Int32) then (fMd_remembers_L11 500 mem (0 : Int32)).bind (fun q2 => zk_let (zk_u q2 0 8 ((q2.1 0 8) - (1 : Int32))) (fun m3 => some m3)) else some mem)).bind (fun q1 => (fMd_remembers_L51 500 q1 (0 : Int32)).bind (fun q5 => zk_let (zk_u q5 0 8 ((q5.1 0 8) + (1 : Int32))) (fun m6 => some m6)))
def fMd_stands (mem : zkM) (a1 : Int32) (a2 : Int32) : Option (Int32 × zkM) :=
  (if (zk_b (fMd_isChild mem a1)) = 0 then some ((-1 : Int32), mem) else (if a2 = (-9 : Int32) then (fMd_remembers mem).bind (fun q1 => (bif zk_inb ((1 : Int32) + a1) 42 then zk_let (q1.1 4 (Int32.toNatClampNeg ((1 : Int32) + a1))) (fun v3 => (bif zk_inb ((1 : Int32) + a1) 42 then zk_let (zk_u q1 4 (Int32.toNatClampNeg ((1 : Int32) + a1)) a2) (fun m5 => some (v3, m5)) else none)) else none)) else (if (zk_b (fMd_isPlank mem a2)) = 0 then some ((-1 : Int32), mem) else (fMd_remembers mem).bind (fun q6 => (bif zk_inb ((1 : Int32) + a1) 42 then zk_let (q6.1 4 (Int32.toNatClampNeg ((1 : Int32) + a1))) (fun v8 => (bif zk_inb ((1 : Int32) + a1) 42 then zk_let (zk_u q6 4 (Int32.toNatClampNeg ((1 : Int32) + a1)) a2) (fun m10 => some (v8, m10)) else none)) else none)))))
def fMd_isForce (a0 : Int32) : Bool :=
  (fMd_in a0 (1 : Int32) (9 : Int32))
def fMd_differ (mem : zkM) (a1 : Int32) : Option (Int32) :=
  zk_let (a1 / (2 : Int32)) (fun v1 => (bif zk_inb ((3 : Int32) * v1) 18 then (bif zk_inb (((3 : Int32) * (mem.1 2 (Int32.toNatClampNeg ((3 : Int32) * v1)))) + (2 : Int32)) 24 then (bif zk_inb (((3 : Int32) * v1) + (1 : Int32)) 18 then (bif zk_inb (((3 : Int32) * (mem.1 2 (Int32.toNatClampNeg (((3 : Int32) * v1) + (1 : Int32))))) + (2 : Int32)) 24 then zk_let ((mem.1 1 (Int32.toNatClampNeg (((3 : Int32) * (mem.1 2 (Int32.toNatClampNeg ((3 : Int32) * v1)))) + (2 : Int32)))) - (mem.1 1 (Int32.toNatClampNeg (((3 : Int32) * (mem.1 2 (Int32.toNatClampNeg (((3 : Int32) * v1) + (1 : Int32))))) + (2 : Int32))))) (fun v6 => (if 0 ≤ v6 then some v6 else some (-v6))) else none) else none) else none) else none))
def fMd_wears (a0 : Int32) (a1 : Int32) (a2 : Int32) : Int32 :=
  (if a0 = (1 : Int32) then a1 * a2 else (if a0 = (2 : Int32) then (a1 * a2) / (2 : Int32) else (a1 * a2) / (3 : Int32)))
def fMd_givesAt (a0 : Int32) : Int32 :=
  (if a0 = (1 : Int32) then (12 : Int32) else (if a0 = (2 : Int32) then (20 : Int32) else (36 : Int32)))
def fMd_blows_4 (mem : zkM) (a1 : Int32) (a2 : Int32) (a3 : Int32) : Option (zkM) :=
  (bif zk_inb (a1 + (2 : Int32)) 42 then (if (mem.1 4 (Int32.toNatClampNeg (a1 + (2 : Int32)))) = 0 then (bif zk_inb a1 42 then (if (mem.1 4 (Int32.toNatClampNeg a1)) = 0 then (if a3 ≤ (6 : Int32) then (bif zk_inb (a1 + (2 : Int32)) 42 then zk_let (zk_u mem 4 (Int32.toNatClampNeg (a1 + (2 : Int32))) (0 : Int32)) (fun m15 => some m15) else none) else (bif zk_inb (a1 + (2 : Int32)) 42 then zk_let (zk_u mem 4 (Int32.toNatClampNeg (a1 + (2 : Int32))) (1 : Int32)) (fun m17 => some m17) else none)) else (bif zk_inb (a1 + (1 : Int32)) 42 then (bif zk_inb a1 42 then (bif zk_inb (a1 + (1 : Int32)) 42 then zk_let (zk_u mem 4 (Int32.toNatClampNeg (a1 + (1 : Int32))) ((mem.1 4 (Int32.toNatClampNeg (a1 + (1 : Int32)))) + (fMd_wears (mem.1 4 (Int32.toNatClampNeg a1)) a2 a3))) (fun m6 => (bif zk_inb (a1 + (1 : Int32)) 42 then (bif zk_inb a1 42 then (if (m6.1 4 (Int32.toNatClampNeg (a1 + (1 : Int32)))) < (fMd_givesAt (m6.1 4 (Int32.toNatClampNeg a1))) then (bif zk_inb (a1 + (2 : Int32)) 42 then zk_let (zk_u m6 4 (Int32.toNatClampNeg (a1 + (2 : Int32))) (0 : Int32)) (fun m10 => some m10) else none) else (bif zk_inb (a1 + (2 : Int32)) 42 then zk_let (zk_u m6 4 (Int32.toNatClampNeg (a1 + (2 : Int32))) (1 : Int32)) (fun m12 => some m12) else none)) else none) else none)) else none) else none) else none)) else none) else some mem) else none)
def fMd_blowsAll_4_L3 : Nat → zkM → Int32 → Int32 → Int32 → Option (zkM)
  | 0, _, _, _, _ => none
  | n + 1, mem, x2, x3, x4 => (if ((2 : Int32) * (mem.1 0 2)) ≤ x4 then some mem else (fMd_differ mem x4).bind (fun q1 => (fMd_blows_4 mem (x2 + ((3 : Int32) * x4)) q1 x3).bind (fun q2 => fMd_blowsAll_4_L3 n q2 x2 x3 (x4 + (1 : Int32)))))
def fMd_blowsAll_4 (mem : zkM) (a2 : Int32) (a3 : Int32) : Option (zkM) :=
  (fMd_blowsAll_4_L3 500 mem a2 a3 (0 : Int32)).bind (fun q1 => some q1)
def fMd_outs_4_L5 : Nat → zkM → Int32 → Int32 → Int32 → Option (Int32)
  | 0, _, _, _, _ => none
  | n + 1, mem, x2, x3, x4 => (if ((2 : Int32) * (mem.1 0 2)) ≤ x4 then some x3 else (bif zk_inb ((x2 + ((3 : Int32) * x4)) + (2 : Int32)) 42 then zk_let (x3 + (mem.1 4 (Int32.toNatClampNeg ((x2 + ((3 : Int32) * x4)) + (2 : Int32))))) (fun v2 => fMd_outs_4_L5 n mem x2 v2 (x4 + (1 : Int32))) else none))
def fMd_outs_4 (mem : zkM) (a2 : Int32) : Option (Int32) :=
  (fMd_outs_4_L5 500 mem a2 (0 : Int32) (0 : Int32)).bind (fun q1 => some q1)
def fMd_gale (mem : zkM) (a1 : Int32) : Option (Int32 × zkM) :=
  (if (zk_b (fMd_isForce a1)) = 0 then some ((-1 : Int32), mem) else (if (mem.1 4 (Int32.toNatClampNeg (0 : Int32))) = (999 : Int32) then some ((-2 : Int32), mem) else (fMd_remembers mem).bind (fun q1 => (fMd_blowsAll_4 q1 (6 : Int32) a1).bind (fun q2 => zk_let (zk_u q2 4 (Int32.toNatClampNeg (0 : Int32)) ((q2.1 4 (Int32.toNatClampNeg (0 : Int32))) + (1 : Int32))) (fun m3 => (fMd_outs_4 m3 (6 : Int32)).bind (fun q4 => some (q4, m3)))))))
def fMd_join (mem : zkM) (a1 : Int32) (a2 : Int32) (a3 : Int32) : Option (Int32 × zkM) :=
  (if (zk_b (fMd_isPlank mem a1)) = 0 then some ((-1 : Int32), mem) else (if (zk_b (fMd_in a2 (0 : Int32) (1 : Int32))) = 0 then some ((-1 : Int32), mem) else (if (zk_b (fMd_in a3 (0 : Int32) (3 : Int32))) = 0 then some ((-1 : Int32), mem) else (fMd_remembers mem).bind (fun q1 => zk_let (fMd_endAt a1 a2) (fun v2 => (bif zk_inb v2 42 then zk_let (q1.1 4 (Int32.toNatClampNeg v2)) (fun v4 => (bif zk_inb v2 42 then zk_let (zk_u q1 4 (Int32.toNatClampNeg v2) a3) (fun m6 => (bif zk_inb (v2 + (1 : Int32)) 42 then zk_let (zk_u m6 4 (Int32.toNatClampNeg (v2 + (1 : Int32))) (0 : Int32)) (fun m8 => (bif zk_inb (v2 + (2 : Int32)) 42 then zk_let (zk_u m8 4 (Int32.toNatClampNeg (v2 + (2 : Int32))) (0 : Int32)) (fun m10 => some (v4, m10)) else none)) else none)) else none)) else none))))))
def fMd_spring_L8 : Nat → zkM → Int32 → Int32 → Option (Int32 × zkM)
  | 0, _, _, _ => none
  | n + 1, mem, x1, x2 => (if ((2 : Int32) * (mem.1 0 2)) ≤ x2 then some (x1, mem) else zk_let ((6 : Int32) + ((3 : Int32) * x2)) (fun v1 => (bif zk_inb v1 42 then ((if (mem.1 4 (Int32.toNatClampNeg v1)) = (1 : Int32) then (bif zk_inb (v1 + (2 : Int32)) 42 then (if (mem.1 4 (Int32.toNatClampNeg (v1 + (2 : Int32)))) = 0 then (bif zk_inb (v1 + (1 : Int32)) 42 then (if (mem.1 4 (Int32.toNatClampNeg (v1 + (1 : Int32)))) ≤ 0 then some (x1, mem) else (bif zk_inb (v1 + (1 : Int32)) 42 then (if (mem.1 4 (Int32.toNatClampNeg (v1 + (1 : Int32)))) ≤ (2 : Int32) then (bif zk_inb (v1 + (1 : Int32)) 42 then zk_let (zk_u mem 4 (Int32.toNatClampNeg (v1 + (1 : Int32))) (0 : Int32)) (fun m8 => some (x1 + (1 : Int32), m8)) else none) else (bif zk_inb (v1 + (1 : Int32)) 42 then (bif zk_inb (v1 + (1 : Int32)) 42 then zk_let (zk_u mem 4 (Int32.toNatClampNeg (v1 + (1 : Int32))) ((mem.1 4 (Int32.toNatClampNeg (v1 + (1 : Int32)))) - (2 : Int32))) (fun m11 => some (x1 + (1 : Int32), m11)) else none) else none)) else none)) else none) else some (x1, mem)) else none) else some (x1, mem))).bind (fun q3 => fMd_spring_L8 n q3.2 q3.1 (x2 + (1 : Int32))) else none)))
def fMd_spring (mem : zkM) : Option (Int32 × zkM) :=
  (fMd_remembers mem).bind (fun q1 => (fMd_spring_L8 500 q1 (0 : Int32) (0 : Int32)).bind (fun q2 => some (q2.1, q2.2)))
def fMd_undo_L22 : Nat → zkM → Int32 → Option (zkM)
  | 0, _, _ => none
  | n + 1, mem, x1 => (if (42 : Int32) ≤ x1 then some mem else (bif zk_inb (((42 : Int32) * (mem.1 0 8)) + x1) 420 then (bif zk_inb x1 42 then zk_let (zk_u mem 4 (Int32.toNatClampNeg x1) (mem.1 5 (Int32.toNatClampNeg (((42 : Int32) * (mem.1 0 8)) + x1)))) (fun m3 => fMd_undo_L22 n m3 (x1 + (1 : Int32))) else none) else none))
def fMd_undo (mem : zkM) : Option (Int32 × zkM) :=
  (if (mem.1 0 8) = 0 then some ((-2 : Int32), mem) else zk_let (zk_u mem 0 8 ((mem.1 0 8) - (1 : Int32))) (fun m1 => (fMd_undo_L22 500 m1 (0 : Int32)).bind (fun q2 => some (q2.1 0 8, q2))))
def fMd_lays_L9 : Nat → zkM → Int32 → Int32 → Option (zkM)
  | 0, _, _, _ => none
  | n + 1, mem, x2, x3 => (if x3 < 0 then some mem else (if ((mem.1 0 2) + (1 : Int32)) = 0 then none else zk_let (x2 - x2 / ((mem.1 0 2) + (1 : Int32)) * ((mem.1 0 2) + (1 : Int32))) (fun v2 => zk_let (if v2 = (mem.1 0 2) then (-9 : Int32) else v2) (fun q3 => (bif zk_inb x3 5 then zk_let (zk_u mem 13 (Int32.toNatClampNeg x3) q3) (fun m6 => (if ((m6.1 0 2) + (1 : Int32)) = 0 then none else zk_let (x2 / ((m6.1 0 2) + (1 : Int32))) (fun v8 => fMd_lays_L9 n m6 v8 (x3 + (-1 : Int32))))) else none)))))
def fMd_lays (mem : zkM) (a1 : Int32) : Option (zkM) :=
  zk_let ((mem.1 0 4) - (1 : Int32)) (fun v1 => (fMd_lays_L9 500 mem a1 v1).bind (fun q2 => (fMd_layLoads q2).bind (fun q3 => some q3)))
def fMd_standing_L4 : Nat → zkM → Int32 → Int32 → Option (Int32)
  | 0, _, _, _ => none
  | n + 1, mem, x1, x2 => (if (mem.1 0 4) ≤ x2 then some x1 else (bif zk_inb x2 5 then zk_let (if (mem.1 13 (Int32.toNatClampNeg x2)) = (-9 : Int32) then false else true) (fun q2 => zk_let (x1 + (zk_b q2)) (fun v4 => fMd_standing_L4 n mem v4 (x2 + (1 : Int32)))) else none))
def fMd_standing (mem : zkM) : Option (Int32) :=
  (fMd_standing_L4 500 mem (0 : Int32) (0 : Int32)).bind (fun q1 => some q1)
def fMd_paid_L4 : Nat → zkM → Int32 → Int32 → Option (Int32)
  | 0, _, _, _ => none
  | n + 1, mem, x1, x2 => (if (mem.1 0 4) ≤ x2 then some x1 else (bif zk_inb x2 5 then ((if (mem.1 13 (Int32.toNatClampNeg x2)) = (-9 : Int32) then some (0 : Int32) else (bif zk_inb (((2 : Int32) * x2) + (1 : Int32)) 10 then some (mem.1 3 (Int32.toNatClampNeg (((2 : Int32) * x2) + (1 : Int32)))) else none))).bind (fun q2 => zk_let (x1 + q2) (fun v5 => fMd_paid_L4 n mem v5 (x2 + (1 : Int32)))) else none))
def fMd_paid (mem : zkM) : Option (Int32) :=
  (fMd_paid_L4 500 mem (0 : Int32) (0 : Int32)).bind (fun q1 => some q1)
def fMd_worth (mem : zkM) (a1 : Bool) : Option (Int32) :=
  (if (zk_b a1) = 0 then (fMd_standing mem).bind (fun q1 => some q1) else (fMd_paid mem).bind (fun q2 => (fMd_standing mem).bind (fun q3 => some ((((10 : Int32) * q2) + (9 : Int32)) - q3))))
def fMd_bestRow_L8 : Nat → zkM → Int32 → Int32 → Option (Int32)
  | 0, _, _, _ => none
  | n + 1, mem, x2, x3 => (if (mem.1 0 4) ≤ x3 then some x2 else zk_let (x2 * ((mem.1 0 2) + (1 : Int32))) (fun v1 => fMd_bestRow_L8 n mem v1 (x3 + (1 : Int32))))
def fMd_bestRow_L39 : Nat → zkM → Bool → Int32 → Int32 → Int32 → Int32 → Option (Int32 × zkM)
  | 0, _, _, _, _, _, _ => none
  | n + 1, mem, x1, x2, x3, x4, x5 => (if x2 ≤ x5 then some (x3, mem) else (fMd_lays mem x5).bind (fun q1 => (fMd_worth q1 x1).bind (fun q2 => ((if q2 ≤ x4 then some (x3, x4) else (fMd_holdsAll q1).bind (fun q4 => (if (zk_b q4) = 0 then some (x3, x4) else some (x5, q2))))).bind (fun q3 => fMd_bestRow_L39 n q1 x1 x2 q3.1 q3.2 (x5 + (1 : Int32))))))
def fMd_bestRow (mem : zkM) (a1 : Bool) : Option (Int32 × zkM) :=
  (fMd_layEnds mem).bind (fun q1 => (fMd_bestRow_L8 500 q1 (1 : Int32) (0 : Int32)).bind (fun q2 => (fMd_bestRow_L39 20000 q1 a1 q2 (0 : Int32) (-1 : Int32) (0 : Int32)).bind (fun q3 => some (q3.1, q3.2))))
def fMd_tells (mem : zkM) (a1 : Int32) (a2 : Bool) : Option (Int32 × zkM) :=
  (if a1 = (-9 : Int32) then (fMd_bestRow mem a2).bind (fun q1 => (fMd_lays q1.2 q1.1).bind (fun q2 => (if a1 = (-9 : Int32) then (if (zk_b a2) = 0 then (fMd_standing q2).bind (fun q6 => some (q6, q2)) else (fMd_paid q2).bind (fun q7 => some (q7, q2))) else (bif zk_inb a1 5 then (if (q2.1 13 (Int32.toNatClampNeg a1)) = (-9 : Int32) then some ((-5 : Int32), q2) else (bif zk_inb a1 5 then some (q2.1 13 (Int32.toNatClampNeg a1), q2) else none)) else none)))) else (if (zk_b (fMd_isChild mem a1)) = 0 then some ((-1 : Int32), mem) else (fMd_bestRow mem a2).bind (fun q10 => (fMd_lays q10.2 q10.1).bind (fun q11 => (if a1 = (-9 : Int32) then (if (zk_b a2) = 0 then (fMd_standing q11).bind (fun q15 => some (q15, q11)) else (fMd_paid q11).bind (fun q16 => some (q16, q11))) else (bif zk_inb a1 5 then (if (q11.1 13 (Int32.toNatClampNeg a1)) = (-9 : Int32) then some ((-5 : Int32), q11) else (bif zk_inb a1 5 then some (q11.1 13 (Int32.toNatClampNeg a1), q11) else none)) else none))))))
def fMd_most (mem : zkM) (a1 : Int32) : Option (Int32 × zkM) :=
  (fMd_tells mem a1 false).bind (fun q1 => some (q1.1, q1.2))
def fMd_richest (mem : zkM) (a1 : Int32) : Option (Int32 × zkM) :=
  (fMd_tells mem a1 true).bind (fun q1 => some (q1.1, q1.2))
def fMd_blows_16 (mem : zkM) (a1 : Int32) (a2 : Int32) (a3 : Int32) : Option (zkM) :=
  (bif zk_inb (a1 + (2 : Int32)) 36 then (if (mem.1 16 (Int32.toNatClampNeg (a1 + (2 : Int32)))) = 0 then (bif zk_inb a1 36 then (if (mem.1 16 (Int32.toNatClampNeg a1)) = 0 then (if a3 ≤ (6 : Int32) then (bif zk_inb (a1 + (2 : Int32)) 36 then zk_let (zk_u mem 16 (Int32.toNatClampNeg (a1 + (2 : Int32))) (0 : Int32)) (fun m15 => some m15) else none) else (bif zk_inb (a1 + (2 : Int32)) 36 then zk_let (zk_u mem 16 (Int32.toNatClampNeg (a1 + (2 : Int32))) (1 : Int32)) (fun m17 => some m17) else none)) else (bif zk_inb (a1 + (1 : Int32)) 36 then (bif zk_inb a1 36 then (bif zk_inb (a1 + (1 : Int32)) 36 then zk_let (zk_u mem 16 (Int32.toNatClampNeg (a1 + (1 : Int32))) ((mem.1 16 (Int32.toNatClampNeg (a1 + (1 : Int32)))) + (fMd_wears (mem.1 16 (Int32.toNatClampNeg a1)) a2 a3))) (fun m6 => (bif zk_inb (a1 + (1 : Int32)) 36 then (bif zk_inb a1 36 then (if (m6.1 16 (Int32.toNatClampNeg (a1 + (1 : Int32)))) < (fMd_givesAt (m6.1 16 (Int32.toNatClampNeg a1))) then (bif zk_inb (a1 + (2 : Int32)) 36 then zk_let (zk_u m6 16 (Int32.toNatClampNeg (a1 + (2 : Int32))) (0 : Int32)) (fun m10 => some m10) else none) else (bif zk_inb (a1 + (2 : Int32)) 36 then zk_let (zk_u m6 16 (Int32.toNatClampNeg (a1 + (2 : Int32))) (1 : Int32)) (fun m12 => some m12) else none)) else none) else none)) else none) else none) else none)) else none) else some mem) else none)
def fMd_blowsAll_16_L3 : Nat → zkM → Int32 → Int32 → Int32 → Option (zkM)
  | 0, _, _, _, _ => none
  | n + 1, mem, x2, x3, x4 => (if ((2 : Int32) * (mem.1 0 2)) ≤ x4 then some mem else (fMd_differ mem x4).bind (fun q1 => (fMd_blows_16 mem (x2 + ((3 : Int32) * x4)) q1 x3).bind (fun q2 => fMd_blowsAll_16_L3 n q2 x2 x3 (x4 + (1 : Int32)))))
def fMd_blowsAll_16 (mem : zkM) (a2 : Int32) (a3 : Int32) : Option (zkM) :=
  (fMd_blowsAll_16_L3 500 mem a2 a3 (0 : Int32)).bind (fun q1 => some q1)
def fMd_firstNew_L12 : Nat → zkM → Int32 → Int32 → Option (Int32)
  | 0, _, _, _ => none
  | n + 1, mem, x1, x2 => (if x2 < 0 then some x1 else (bif zk_inb (((3 : Int32) * x2) + (2 : Int32)) 36 then (bif zk_inb (((6 : Int32) + ((3 : Int32) * x2)) + (2 : Int32)) 42 then zk_let (if (mem.1 16 (Int32.toNatClampNeg (((3 : Int32) * x2) + (2 : Int32)))) ≤ (mem.1 4 (Int32.toNatClampNeg (((6 : Int32) + ((3 : Int32) * x2)) + (2 : Int32)))) then x1 else x2) (fun q3 => fMd_firstNew_L12 n mem q3 (x2 + (-1 : Int32))) else none) else none))
def fMd_firstNew (mem : zkM) : Option (Int32) :=
  zk_let (((2 : Int32) * (mem.1 0 2)) - (1 : Int32)) (fun v1 => (fMd_firstNew_L12 500 mem (-9 : Int32) v1).bind (fun q2 => some q2))
def fMd_firstOut_L24 : Nat → zkM → Int32 → Int32 → Int32 → Option ((Int32 × zkM) ⊕ (zkM))
  | 0, _, _, _, _ => none
  | n + 1, mem, x1, x2, x3 => (if (60 : Int32) < x3 then some (.inr mem) else (fMd_blowsAll_16 mem (0 : Int32) x1).bind (fun q1 => (fMd_firstNew q1).bind (fun q2 => (if q2 = (-9 : Int32) then fMd_firstOut_L24 n q1 x1 x2 (x3 + (1 : Int32)) else (if x2 = 0 then some (.inl (x3, q1)) else (fMd_firstNew q1).bind (fun q3 => some (.inl (q3, q1))))))))
def fMd_firstOut (mem : zkM) (a1 : Int32) (a2 : Int32) : Option (Int32 × zkM) :=
  (if (zk_b (fMd_isForce a1)) = 0 then some ((-1 : Int32), mem) else (if (zk_b (fMd_in a2 (0 : Int32) (1 : Int32))) = 0 then some ((-1 : Int32), mem) else (fMd_layEnds mem).bind (fun q1 => (fMd_firstOut_L24 500 q1 a1 a2 (1 : Int32)).bind (fun q2 => Sum.elim (fun y => some y) (fun q3 => some ((-9 : Int32), q3)) q2))))
def fMd_holdsFor_L19 : Nat → zkM → Int32 → Int32 → Option ((Int32 × zkM) ⊕ (zkM))
  | 0, _, _, _ => none
  | n + 1, mem, x1, x2 => (if (60 : Int32) < x2 then some (.inr mem) else (fMd_holdsAll mem).bind (fun q1 => (if (zk_b q1) = 0 then some (.inl (x2, mem)) else (fMd_blowsAll_16 mem (0 : Int32) x1).bind (fun q2 => fMd_holdsFor_L19 n q2 x1 (x2 + (1 : Int32))))))
def fMd_holdsFor (mem : zkM) (a1 : Int32) : Option (Int32 × zkM) :=
  (if (zk_b (fMd_isForce a1)) = 0 then some ((-1 : Int32), mem) else (fMd_layLoadsNow mem).bind (fun q1 => (fMd_layEnds q1).bind (fun q2 => (fMd_holdsFor_L19 500 q2 a1 (0 : Int32)).bind (fun q3 => Sum.elim (fun y => some y) (fun q4 => some ((-9 : Int32), q4)) q3))))
def fMd_outSet_L4 : Nat → zkM → Int32 → Int32 → Option (Int32)
  | 0, _, _, _ => none
  | n + 1, mem, x1, x2 => (if ((2 : Int32) * (mem.1 0 2)) ≤ x2 then some x1 else (bif zk_inb (((3 : Int32) * x2) + (2 : Int32)) 36 then (bif zk_inb (((6 : Int32) + ((3 : Int32) * x2)) + (2 : Int32)) 42 then zk_let (if (mem.1 16 (Int32.toNatClampNeg (((3 : Int32) * x2) + (2 : Int32)))) ≤ (mem.1 4 (Int32.toNatClampNeg (((6 : Int32) + ((3 : Int32) * x2)) + (2 : Int32)))) then (0 : Int32) else (1 : Int32) <<< (x2 &&& 31)) (fun q3 => zk_let (x1 ||| q3) (fun v5 => fMd_outSet_L4 n mem v5 (x2 + (1 : Int32)))) else none) else none))
def fMd_outSet (mem : zkM) : Option (Int32) :=
  (fMd_outSet_L4 500 mem (0 : Int32) (0 : Int32)).bind (fun q1 => some q1)
def fMd_bolts_L35 : Nat → zkM → Int32 → Int32 → Int32 → Option (zkM)
  | 0, _, _, _, _ => none
  | n + 1, mem, x1, x2, x4 => (if x2 ≤ x4 then some mem else (fMd_blowsAll_16 mem (0 : Int32) x1).bind (fun q1 => fMd_bolts_L35 n q1 x1 x2 (x4 + (1 : Int32))))
def fMd_bolts_L77 : Nat → zkM → Int32 → Option (zkM)
  | 0, _, _ => none
  | n + 1, mem, x5 => (if ((2 : Int32) * (mem.1 0 2)) ≤ x5 then some mem else (bif zk_inb (((3 : Int32) * x5) + (2 : Int32)) 36 then ((if (mem.1 16 (Int32.toNatClampNeg (((3 : Int32) * x5) + (2 : Int32)))) = 0 then (bif zk_inb ((3 : Int32) * x5) 36 then zk_let (zk_u mem 16 (Int32.toNatClampNeg ((3 : Int32) * x5)) (3 : Int32)) (fun m4 => (bif zk_inb (((3 : Int32) * x5) + (1 : Int32)) 36 then zk_let (zk_u m4 16 (Int32.toNatClampNeg (((3 : Int32) * x5) + (1 : Int32))) (0 : Int32)) (fun m6 => some m6) else none)) else none) else some mem)).bind (fun q2 => fMd_bolts_L77 n q2 (x5 + (1 : Int32))) else none))
def fMd_bolts_L133 : Nat → zkM → Int32 → Int32 → Int32 → Option (zkM)
  | 0, _, _, _, _ => none
  | n + 1, mem, x1, x2, x5 => (if x2 ≤ x5 then some mem else (fMd_blowsAll_16 mem (0 : Int32) x1).bind (fun q1 => fMd_bolts_L133 n q1 x1 x2 (x5 + (1 : Int32))))
def fMd_bolts (mem : zkM) (a1 : Int32) (a2 : Int32) (a3 : Int32) : Option (Int32 × zkM) :=
  (if (zk_b (fMd_isForce a1)) = 0 then some ((-1 : Int32), mem) else (if (zk_b (fMd_in a2 (1 : Int32) (30 : Int32))) = 0 then some ((-1 : Int32), mem) else (if (zk_b (fMd_in a3 (0 : Int32) (1 : Int32))) = 0 then some ((-1 : Int32), mem) else (fMd_layEnds mem).bind (fun q1 => (fMd_bolts_L35 500 q1 a1 a2 (0 : Int32)).bind (fun q2 => (fMd_outSet q2).bind (fun q3 => (if a3 = 0 then some (q3, q2) else (fMd_layEnds q2).bind (fun q4 => (fMd_bolts_L77 500 q4 (0 : Int32)).bind (fun q5 => (fMd_bolts_L133 500 q5 a1 a2 (0 : Int32)).bind (fun q6 => (fMd_outSet q6).bind (fun q7 => some (q3 &&& (q7 ^^^ (-1 : Int32)), q6))))))))))))
def fMd_stays_L3 : Nat → zkM → Int32 → Int32 → Option (zkM)
  | 0, _, _, _ => none
  | n + 1, mem, x2, x5 => (if (64 : Int32) ≤ x5 then some mem else zk_let (if x5 = x2 then (1 : Int64) else (0 : Int64)) (fun q1 => (bif zk_inb x5 64 then zk_let (zk_ul mem 17 (Int32.toNatClampNeg x5) q1) (fun m4 => fMd_stays_L3 n m4 x2 (x5 + (1 : Int32))) else none)))
def fMd_stays_L47 : Nat → zkM → Int32 → Option (zkM)
  | 0, _, _ => none
  | n + 1, mem, x6 => (if (64 : Int32) ≤ x6 then some mem else (bif zk_inb x6 64 then zk_let (zk_ul mem 18 (Int32.toNatClampNeg x6) (0 : Int64)) (fun m2 => fMd_stays_L47 n m2 (x6 + (1 : Int32))) else none))
def fMd_stays_L83 : Nat → zkM → Int32 → Int32 → Int32 → Int32 → Option (zkM)
  | 0, _, _, _, _, _ => none
  | n + 1, mem, x1, x3, x6, x7 => (if (7 : Int32) ≤ x7 then some mem else zk_let (x6 + (fMd_wears x1 x3 x7)) (fun v1 => (bif zk_inb v1 64 then (bif zk_inb x6 64 then (bif zk_inb v1 64 then zk_let (zk_ul mem 18 (Int32.toNatClampNeg v1) ((mem.2 18 (Int32.toNatClampNeg v1)) + (mem.2 17 (Int32.toNatClampNeg x6)))) (fun m5 => fMd_stays_L83 n m5 x1 x3 x6 (x7 + (1 : Int32))) else none) else none) else none)))
def fMd_stays_L71 : Nat → zkM → Int32 → Int32 → Int32 → Option (zkM)
  | 0, _, _, _, _ => none
  | n + 1, mem, x1, x3, x6 => (if (fMd_givesAt x1) ≤ x6 then some mem else (fMd_stays_L83 500 mem x1 x3 x6 (1 : Int32)).bind (fun q1 => fMd_stays_L71 n q1 x1 x3 (x6 + (1 : Int32))))
def fMd_stays_L134 : Nat → zkM → Int32 → Int32 → Option (zkM)
  | 0, _, _, _ => none
  | n + 1, mem, x1, x6 => (if (64 : Int32) ≤ x6 then some mem else ((if (fMd_givesAt x1) ≤ x6 then some (0 : Int64) else (bif zk_inb x6 64 then some (mem.2 18 (Int32.toNatClampNeg x6)) else none))).bind (fun q1 => (bif zk_inb x6 64 then zk_let (zk_ul mem 17 (Int32.toNatClampNeg x6) q1) (fun m5 => fMd_stays_L134 n m5 x1 (x6 + (1 : Int32))) else none)))
def fMd_stays_L37 : Nat → zkM → Int32 → Int32 → Int32 → Int32 → Option (zkM)
  | 0, _, _, _, _, _ => none
  | n + 1, mem, x1, x3, x4, x5 => (if x4 ≤ x5 then some mem else (fMd_stays_L47 500 mem (0 : Int32)).bind (fun q1 => (fMd_stays_L71 500 q1 x1 x3 (0 : Int32)).bind (fun q2 => (fMd_stays_L134 500 q2 x1 (0 : Int32)).bind (fun q3 => fMd_stays_L37 n q3 x1 x3 x4 (x5 + (1 : Int32))))))
def fMd_stays_L186 : Nat → zkM → Int64 → Int32 → Option (Int64)
  | 0, _, _, _ => none
  | n + 1, mem, x5, x7 => (if (64 : Int32) ≤ x7 then some x5 else (bif zk_inb x7 64 then zk_let (x5 + (mem.2 17 (Int32.toNatClampNeg x7))) (fun v2 => fMd_stays_L186 n mem v2 (x7 + (1 : Int32))) else none))
def fMd_stays (mem : zkM) (a1 : Int32) (a2 : Int32) (a3 : Int32) (a4 : Int32) : Option (Int64 × zkM) :=
  (fMd_stays_L3 500 mem a2 (0 : Int32)).bind (fun q1 => (fMd_stays_L37 500 q1 a1 a3 a4 (0 : Int32)).bind (fun q2 => (fMd_stays_L186 500 q2 (0 : Int64) (0 : Int32)).bind (fun q3 => some (q3, q2))))
def fMd_odds_L71 : Nat → zkM → Int32 → Int64 → Int32 → Option (Int64)
  | 0, _, _, _, _ => none
  | n + 1, mem, x3, x6, x8 => (if x3 ≤ x8 then some x6 else zk_let (x6 * (6 : Int64)) (fun v1 => fMd_odds_L71 n mem x3 v1 (x8 + (1 : Int32))))
def fMd_odds_L146 : Nat → zkM → Int64 → Int64 → Option (Int64)
  | 0, _, _, _ => none
  | n + 1, mem, x10, x12 => (if (lg_cmp x12 (0 : Int64)) ≤ 0 then some x10 else (if x12 = 0 then none else zk_let (x10 - x10 / x12 * x12) (fun v2 => fMd_odds_L146 n mem x12 v2)))
def fMd_odds (mem : zkM) (a1 : Int32) (a2 : Int32) (a3 : Int32) (a4 : Int32) : Option (Int64 × zkM) :=
  (if (zk_b (fMd_isPlank mem a1)) = 0 then some ((-1 : Int64), mem) else (if (zk_b (fMd_in a2 (0 : Int32) (1 : Int32))) = 0 then some ((-1 : Int64), mem) else (if (zk_b (fMd_in a3 (0 : Int32) (6 : Int32))) = 0 then some ((-1 : Int64), mem) else (if (zk_b (fMd_in a4 (0 : Int32) (1 : Int32))) = 0 then some ((-1 : Int64), mem) else zk_let (fMd_endAt a1 a2) (fun v1 => (bif zk_inb (v1 + (2 : Int32)) 42 then (if (mem.1 4 (Int32.toNatClampNeg (v1 + (2 : Int32)))) = (1 : Int32) then some ((-2 : Int64), mem) else (fMd_odds_L71 500 mem a3 (1 : Int64) (0 : Int32)).bind (fun q3 => (bif zk_inb v1 42 then ((if (mem.1 4 (Int32.toNatClampNeg v1)) = 0 then some (q3, mem) else (bif zk_inb v1 42 then (bif zk_inb (v1 + (1 : Int32)) 42 then (fMd_differ mem (((2 : Int32) * a1) + a2)).bind (fun q8 => (fMd_stays mem (mem.1 4 (Int32.toNatClampNeg v1)) (mem.1 4 (Int32.toNatClampNeg (v1 + (1 : Int32)))) q8 a3).bind (fun q9 => some (q9.1, q9.2))) else none) else none))).bind (fun q5 => (fMd_odds_L146 500 q5.2 q5.1 q3).bind (fun q11 => (if a4 = 0 then (if q11 = 0 then none else some (q5.1 / q11, q5.2)) else (if q11 = 0 then none else some (q3 / q11, q5.2))))) else none))) else none))))))
def fMd_has (a0 : Int32) (a1 : Int32) : Bool :=
  (if ((a0 >>> (a1 &&& 31)) &&& (1 : Int32)) = (1 : Int32) then true else false)
def fMd_mayLay_L5 : Nat → zkM → Int32 → Int32 → Int32 → Option (Int32)
  | 0, _, _, _, _ => none
  | n + 1, mem, x1, x3, x4 => (if (mem.1 0 2) ≤ x4 then some x3 else ((if (zk_b (fMd_has x1 x4)) = 0 then some (0 : Int32) else (bif zk_inb ((3 : Int32) * x4) 18 then (bif zk_inb (((3 : Int32) * x4) + (1 : Int32)) 18 then some (((1 : Int32) <<< ((mem.1 2 (Int32.toNatClampNeg ((3 : Int32) * x4))) &&& 31)) ||| ((1 : Int32) <<< ((mem.1 2 (Int32.toNatClampNeg (((3 : Int32) * x4) + (1 : Int32)))) &&& 31))) else none) else none))).bind (fun q1 => zk_let (x3 ||| q1) (fun v5 => fMd_mayLay_L5 n mem x1 v5 (x4 + (1 : Int32)))))
def fMd_mayLay (mem : zkM) (a1 : Int32) (a2 : Int32) : Option (Bool) :=
  (fMd_mayLay_L5 500 mem a1 (1 : Int32) (0 : Int32)).bind (fun q1 => (if (zk_b (fMd_has a1 a2)) = 0 then (bif zk_inb ((3 : Int32) * a2) 18 then (if (zk_b (fMd_has q1 (mem.1 2 (Int32.toNatClampNeg ((3 : Int32) * a2))))) = 0 then (bif zk_inb (((3 : Int32) * a2) + (1 : Int32)) 18 then (if (zk_b (fMd_has q1 (mem.1 2 (Int32.toNatClampNeg (((3 : Int32) * a2) + (1 : Int32)))))) = 0 then some false else some true) else none) else some true) else none) else some false))
def fMd_findOrders_L29 : Nat → zkM → Int32 → Int32 → Int32 → Option (Int32)
  | 0, _, _, _, _ => none
  | n + 1, mem, x2, x3, x4 => (if (mem.1 0 2) ≤ x4 then some x3 else (fMd_mayLay mem x2 x4).bind (fun q1 => ((if (zk_b q1) = 0 then some (0 : Int32) else (bif zk_inb (x2 ||| ((1 : Int32) <<< (x4 &&& 31))) 64 then some (mem.1 19 (Int32.toNatClampNeg (x2 ||| ((1 : Int32) <<< (x4 &&& 31))))) else none))).bind (fun q2 => zk_let (x3 + q2) (fun v5 => fMd_findOrders_L29 n mem x2 v5 (x4 + (1 : Int32))))))
def fMd_findOrders_L20 : Nat → zkM → Int32 → Option (zkM)
  | 0, _, _ => none
  | n + 1, mem, x2 => (if x2 < 0 then some mem else (fMd_findOrders_L29 500 mem x2 (0 : Int32) (0 : Int32)).bind (fun q1 => (bif zk_inb x2 64 then zk_let (zk_u mem 19 (Int32.toNatClampNeg x2) q1) (fun m3 => fMd_findOrders_L20 n m3 (x2 + (-1 : Int32))) else none)))
def fMd_findOrders (mem : zkM) : Option (zkM) :=
  zk_let (((1 : Int32) <<< ((mem.1 0 2) &&& 31)) - (1 : Int32)) (fun v1 => (bif zk_inb v1 64 then zk_let (zk_u mem 19 (Int32.toNatClampNeg v1) (1 : Int32)) (fun m3 => zk_let (v1 - (1 : Int32)) (fun v4 => (fMd_findOrders_L20 500 m3 v4).bind (fun q5 => some q5))) else none))
def fMd_orders_L60 : Nat → zkM → Int32 → Int32 → Option (Int32)
  | 0, _, _, _ => none
  | n + 1, mem, x2, x3 => (fMd_mayLay mem x2 x3).bind (fun q1 => (if (zk_b q1) = 0 then fMd_orders_L60 n mem x2 (x3 + (1 : Int32)) else (bif zk_inb (x2 ||| ((1 : Int32) <<< (x3 &&& 31))) 64 then (if (mem.1 19 (Int32.toNatClampNeg (x2 ||| ((1 : Int32) <<< (x3 &&& 31))))) = 0 then fMd_orders_L60 n mem x2 (x3 + (1 : Int32)) else some x3) else none)))
def fMd_orders_L52 : Nat → zkM → Int32 → Int32 → Int32 → Int32 → Option (Int32)
  | 0, _, _, _, _, _ => none
  | n + 1, mem, x1, x2, x3, x4 => (if x1 < x4 then some x3 else (fMd_orders_L60 500 mem x2 (0 : Int32)).bind (fun q1 => zk_let (x2 ||| ((1 : Int32) <<< (q1 &&& 31))) (fun v2 => fMd_orders_L52 n mem x1 v2 q1 (x4 + (1 : Int32)))))
def fMd_orders (mem : zkM) (a1 : Int32) : Option (Int32 × zkM) :=
  (if (-1 : Int32) ≤ a1 then (fMd_findOrders mem).bind (fun q1 => (if 0 ≤ a1 then (if (q1.1 19 (Int32.toNatClampNeg (0 : Int32))) = 0 then some ((-9 : Int32), q1) else (if a1 < (q1.1 0 2) then (fMd_orders_L52 500 q1 a1 (0 : Int32) (0 : Int32) (0 : Int32)).bind (fun q2 => some (q2, q1)) else some ((-5 : Int32), q1))) else some (q1.1 19 (Int32.toNatClampNeg (0 : Int32)), q1))) else some ((-1 : Int32), mem))
def fMd_barred_L17 : Nat → zkM → Int32 → Int32 → Int32 → Option (Int32)
  | 0, _, _, _, _ => none
  | n + 1, mem, x1, x3, x4 => (if (mem.1 0 2) ≤ x4 then some x3 else (fMd_mayLay mem x1 x4).bind (fun q1 => zk_let (if (zk_b q1) = 0 then (0 : Int32) else (1 : Int32) <<< (x4 &&& 31)) (fun q2 => zk_let (x3 ||| q2) (fun v4 => fMd_barred_L17 n mem x1 v4 (x4 + (1 : Int32))))))
def fMd_barred_L4 : Nat → zkM → Int32 → Int32 → Option (Int32)
  | 0, _, _, _ => none
  | n + 1, mem, x1, x2 => (if (mem.1 0 2) ≤ x2 then some x1 else (fMd_barred_L17 500 mem x1 x1 (0 : Int32)).bind (fun q1 => fMd_barred_L4 n mem q1 (x2 + (1 : Int32))))
def fMd_barred (mem : zkM) : Option (Int32) :=
  (fMd_barred_L4 500 mem (0 : Int32) (0 : Int32)).bind (fun q1 => some ((((1 : Int32) <<< ((mem.1 0 2) &&& 31)) - (1 : Int32)) &&& (q1 ^^^ (-1 : Int32))))
def fMd_bits_L4 : Nat → zkM → Int32 → Int32 → Option (Int32)
  | 0, _, _, _ => none
  | n + 1, mem, x1, x2 => (if x2 ≤ 0 then some x1 else zk_let (x2 &&& (x2 - (1 : Int32))) (fun v1 => fMd_bits_L4 n mem (x1 + (1 : Int32)) v1))
def fMd_bits (mem : zkM) (a0 : Int32) : Option (Int32) :=
  (fMd_bits_L4 500 mem (0 : Int32) a0).bind (fun q1 => some q1)
def fMd_hoist_L47 : Nat → zkM → Int32 → Int32 → Int32 → Option (Int32)
  | 0, _, _, _, _ => none
  | n + 1, mem, x4, x5, x6 => (if (mem.1 0 4) ≤ x6 then some x5 else ((if (zk_b (fMd_has x4 x6)) = 0 then some (0 : Int32) else (bif zk_inb ((2 : Int32) * x6) 10 then some (mem.1 3 (Int32.toNatClampNeg ((2 : Int32) * x6))) else none))).bind (fun q1 => zk_let (x5 + q1) (fun v4 => fMd_hoist_L47 n mem x4 v4 (x6 + (1 : Int32)))))
def fMd_hoist_L30 : Nat → zkM → Int32 → Int32 → Int32 → Int32 → Option (Int32)
  | 0, _, _, _, _, _ => none
  | n + 1, mem, x1, x2, x3, x4 => (if ((1 : Int32) <<< ((mem.1 0 4) &&& 31)) ≤ x4 then some x3 else (fMd_hoist_L47 500 mem x4 (0 : Int32) (0 : Int32)).bind (fun q1 => (bif zk_inb ((3 : Int32) * x1) 24 then ((if q1 < (x2 + ((mem.1 1 (Int32.toNatClampNeg ((3 : Int32) * x1))) / (4 : Int32))) then some false else (bif zk_inb x1 8 then (bif zk_inb (((3 : Int32) * x1) + (1 : Int32)) 24 then (if (mem.1 1 (Int32.toNatClampNeg (((3 : Int32) * x1) + (1 : Int32)))) < (((mem.1 15 (Int32.toNatClampNeg x1)) + x2) + q1) then some false else some true) else none) else none))).bind (fun q3 => ((if (zk_b q3) = 0 then some x3 else (if x3 = (-9 : Int32) then some x4 else (fMd_bits mem x4).bind (fun q9 => (fMd_bits mem x3).bind (fun q10 => (if q10 ≤ q9 then some x3 else some x4)))))).bind (fun q8 => fMd_hoist_L30 n mem x1 x2 q8 (x4 + (1 : Int32)))) else none)))
def fMd_hoist (mem : zkM) (a1 : Int32) (a2 : Int32) : Option (Int32 × zkM) :=
  (if (zk_b (fMd_isBough mem a1)) = 0 then some ((-1 : Int32), mem) else (if (zk_b (fMd_in a2 (1 : Int32) (60 : Int32))) = 0 then some ((-1 : Int32), mem) else (fMd_layLoadsNow mem).bind (fun q1 => (fMd_hoist_L30 500 q1 a1 a2 (-9 : Int32) (0 : Int32)).bind (fun q2 => some (q2, q1)))))
def fMd_test (mem : zkM) (a1 : Int32) (a2 : Int32) (a3 : Int32) : Option (Int32 × zkM) :=
  (if (zk_b (fMd_isPlank mem a1)) = 0 then some ((-1 : Int32), mem) else (if (zk_b (fMd_in a2 (1 : Int32) (60 : Int32))) = 0 then some ((-1 : Int32), mem) else (if (zk_b (fMd_in a3 (0 : Int32) (1 : Int32))) = 0 then some ((-1 : Int32), mem) else (if (mem.1 0 11) = (6 : Int32) then some ((-3 : Int32), mem) else (bif zk_inb ((3 : Int32) * (mem.1 0 11)) 18 then zk_let (zk_u mem 8 (Int32.toNatClampNeg ((3 : Int32) * (mem.1 0 11))) a1) (fun m2 => (bif zk_inb (((3 : Int32) * (m2.1 0 11)) + (1 : Int32)) 18 then zk_let (zk_u m2 8 (Int32.toNatClampNeg (((3 : Int32) * (m2.1 0 11)) + (1 : Int32))) a2) (fun m4 => (bif zk_inb (((3 : Int32) * (m4.1 0 11)) + (2 : Int32)) 18 then zk_let (zk_u m4 8 (Int32.toNatClampNeg (((3 : Int32) * (m4.1 0 11)) + (2 : Int32))) a3) (fun m6 => zk_let (zk_u m6 0 11 ((m6.1 0 11) + (1 : Int32))) (fun m7 => some (m7.1 0 11, m7))) else none)) else none)) else none)))))
def fMd_forget (mem : zkM) : Int32 × zkM :=
  zk_let (mem.1 0 11) (fun v1 => zk_let (zk_u mem 0 11 (0 : Int32)) (fun m2 => (v1, m2)))
def fMd_breaks (mem : zkM) (a1 : Int32) (a2 : Int32) (a3 : Int32) : Option (Bool) :=
  ((if a2 = a1 then (bif zk_inb (((3 : Int32) * a2) + (2 : Int32)) 18 then some ((mem.1 2 (Int32.toNatClampNeg (((3 : Int32) * a2) + (2 : Int32)))) / (2 : Int32)) else none) else (bif zk_inb (((3 : Int32) * a2) + (2 : Int32)) 18 then some (mem.1 2 (Int32.toNatClampNeg (((3 : Int32) * a2) + (2 : Int32)))) else none))).bind (fun q1 => (if a3 ≤ q1 then some false else some true))
def fMd_mayBeNow_L17 : Nat → zkM → Int32 → Int32 → Int32 → Option (Int32)
  | 0, _, _, _, _ => none
  | n + 1, mem, x2, x3, x4 => (if (mem.1 0 11) ≤ x4 then some x3 else ((if x3 = 0 then some false else (bif zk_inb ((3 : Int32) * x4) 18 then (bif zk_inb (((3 : Int32) * x4) + (1 : Int32)) 18 then (fMd_breaks mem x2 (mem.1 8 (Int32.toNatClampNeg ((3 : Int32) * x4))) (mem.1 8 (Int32.toNatClampNeg (((3 : Int32) * x4) + (1 : Int32))))).bind (fun q4 => (bif zk_inb (((3 : Int32) * x4) + (2 : Int32)) 18 then (if (mem.1 8 (Int32.toNatClampNeg (((3 : Int32) * x4) + (2 : Int32)))) = (1 : Int32) then (if (zk_b q4) = (1 : Int32) then some true else some false) else (if (zk_b q4) = (0 : Int32) then some true else some false)) else none)) else none) else none))).bind (fun q1 => fMd_mayBeNow_L17 n mem x2 (zk_b q1) (x4 + (1 : Int32))))
def fMd_mayBeNow_L4 : Nat → zkM → Int32 → Int32 → Option (Int32)
  | 0, _, _, _ => none
  | n + 1, mem, x1, x2 => (if (mem.1 0 2) ≤ x2 then some x1 else (fMd_mayBeNow_L17 500 mem x2 (1 : Int32) (0 : Int32)).bind (fun q1 => zk_let (if q1 = 0 then (0 : Int32) else (1 : Int32) <<< (x2 &&& 31)) (fun q2 => zk_let (x1 ||| q2) (fun v4 => fMd_mayBeNow_L4 n mem v4 (x2 + (1 : Int32))))))
def fMd_mayBeNow (mem : zkM) : Option (Int32) :=
  (fMd_mayBeNow_L4 500 mem (0 : Int32) (0 : Int32)).bind (fun q1 => some q1)
def fMd_mayBe (mem : zkM) : Option (Int32) :=
  (fMd_mayBeNow mem).bind (fun q1 => some q1)
def fMd_ask_L44 : Nat → zkM → Int32 → Int32 → Int32 → Int32 → Option (Int32)
  | 0, _, _, _, _, _ => none
  | n + 1, mem, x2, x5, x6, x7 => (if (mem.1 0 2) ≤ x7 then some x6 else ((if (zk_b (fMd_has x2 x7)) = 0 then some false else (fMd_breaks mem x7 (x5 / (40 : Int32)) ((x5 - x5 / (40 : Int32) * (40 : Int32)) + (1 : Int32))).bind (fun q2 => (if (zk_b q2) = 0 then some false else some true)))).bind (fun q1 => zk_let (x6 + (zk_b q1)) (fun v5 => fMd_ask_L44 n mem x2 x5 v5 (x7 + (1 : Int32)))))
def fMd_ask_L26 : Nat → zkM → Int32 → Int32 → Int32 → Int32 → Option (Int32)
  | 0, _, _, _, _, _ => none
  | n + 1, mem, x2, x3, x4, x5 => (if ((40 : Int32) * (mem.1 0 2)) ≤ x5 then some x3 else (fMd_ask_L44 500 mem x2 x5 (0 : Int32) (0 : Int32)).bind (fun q1 => (fMd_bits mem x2).bind (fun q2 => zk_let (q2 - q1) (fun v3 => zk_let (if q1 ≤ v3 then v3 else q1) (fun q4 => zk_let (if x4 ≤ q4 then x3 else x5) (fun q6 => zk_let (if x4 ≤ q4 then x4 else q4) (fun q8 => fMd_ask_L26 n mem x2 q6 q8 (x5 + (1 : Int32)))))))))
def fMd_ask (mem : zkM) (a1 : Int32) : Option (Int32) :=
  (if (zk_b (fMd_in a1 (0 : Int32) (1 : Int32))) = 0 then some (-1 : Int32) else (fMd_mayBeNow mem).bind (fun q1 => (fMd_ask_L26 500 mem q1 (-9 : Int32) (7 : Int32) (0 : Int32)).bind (fun q2 => (if q2 = (-9 : Int32) then some (-9 : Int32) else (if a1 = 0 then some (q2 / (40 : Int32)) else some ((q2 - q2 / (40 : Int32) * (40 : Int32)) + (1 : Int32)))))))
def fMd_childRate (mem : zkM) (a1 : Int32) : Option (Int32 × zkM) :=
  zk_let (zk_ul mem 0 13 ((mem.2 0 13) + (1 : Int64))) (fun m1 => (bif zk_inb ((2 : Int32) * a1) 10 then some (m1.1 3 (Int32.toNatClampNeg ((2 : Int32) * a1)), m1) else none))
def fMd_climberRate (mem : zkM) (a1 : Int32) : Option (Int32 × zkM) :=
  zk_let (zk_ul mem 0 13 ((mem.2 0 13) + (10 : Int64))) (fun m1 => (bif zk_inb ((1 : Int32) + a1) 42 then zk_let (m1.1 4 (Int32.toNatClampNeg ((1 : Int32) + a1))) (fun v3 => (fMd_childRate m1 a1).bind (fun q4 => (if v3 = (-9 : Int32) then some (q4.1 + (0 : Int32), q4.2) else (bif zk_inb ((3 : Int32) * v3) 18 then (bif zk_inb ((3 : Int32) * (q4.2.1 2 (Int32.toNatClampNeg ((3 : Int32) * v3)))) 24 then some (q4.1 + (q4.2.1 1 (Int32.toNatClampNeg ((3 : Int32) * (q4.2.1 2 (Int32.toNatClampNeg ((3 : Int32) * v3)))))), q4.2) else none) else none)))) else none))
def fMd_guestRate (mem : zkM) (a1 : Int32) : Option (Int32 × zkM) :=
  zk_let (zk_ul mem 0 13 ((mem.2 0 13) + (100 : Int64))) (fun m1 => (fMd_childRate m1 a1).bind (fun q2 => (bif zk_inb (((2 : Int32) * a1) + (1 : Int32)) 10 then some (q2.1 - (q2.2.1 3 (Int32.toNatClampNeg (((2 : Int32) * a1) + (1 : Int32)))), q2.2) else none)))
def fMd_rate (mem : zkM) (a1 : Int32) (a2 : Int32) : Option (Int32 × zkM) :=
  (if (zk_b (fMd_in a1 (0 : Int32) (5 : Int32))) = 0 then some ((-1000000 : Int32), mem) else (if (zk_b (fMd_isChild mem a2)) = 0 then some ((-1000000 : Int32), mem) else (if a1 = (0 : Int32) then (fMd_childRate mem a2).bind (fun q2 => some (q2.1, q2.2)) else (if a1 = (1 : Int32) then (fMd_climberRate mem a2).bind (fun q4 => some (q4.1, q4.2)) else (if a1 = (2 : Int32) then (fMd_guestRate mem a2).bind (fun q6 => some (q6.1, q6.2)) else (if a1 = (3 : Int32) then zk_let (zk_ul mem 0 13 ((mem.2 0 13) + (1000 : Int64))) (fun m8 => (fMd_climberRate m8 a2).bind (fun q9 => some ((2 : Int32) * q9.1, q9.2))) else (if a1 = (4 : Int32) then zk_let (zk_ul mem 0 13 ((mem.2 0 13) + (10000 : Int64))) (fun m11 => (fMd_guestRate m11 a2).bind (fun q12 => some (q12.1 + a2, q12.2))) else zk_let (zk_ul mem 0 13 ((mem.2 0 13) + (100000 : Int64))) (fun m13 => (fMd_childRate m13 a2).bind (fun q14 => (fMd_outs_4 q14.2 (6 : Int32)).bind (fun q15 => some (q14.1 + q15, q14.2)))))))))))
def fMd_keep_L13 : Nat → zkM → Int32 → Int32 → Option (zkM)
  | 0, _, _, _ => none
  | n + 1, mem, x1, x2 => (if (42 : Int32) ≤ x2 then some mem else (bif zk_inb x2 42 then (bif zk_inb (((42 : Int32) * x1) + x2) 84 then zk_let (zk_u mem 6 (Int32.toNatClampNeg (((42 : Int32) * x1) + x2)) (mem.1 4 (Int32.toNatClampNeg x2))) (fun m3 => fMd_keep_L13 n m3 x1 (x2 + (1 : Int32))) else none) else none))
def fMd_keep (mem : zkM) (a1 : Int32) : Option (Int32 × zkM) :=
  (if (zk_b (fMd_in a1 (0 : Int32) (1 : Int32))) = 0 then some ((-1 : Int32), mem) else (fMd_keep_L13 500 mem a1 (0 : Int32)).bind (fun q1 => (bif zk_inb a1 2 then zk_let (zk_u q1 7 (Int32.toNatClampNeg a1) (1 : Int32)) (fun m3 => some (m3.1 4 (Int32.toNatClampNeg (0 : Int32)), m3)) else none)))
def fMd_back_L25 : Nat → zkM → Int32 → Int32 → Option (zkM)
  | 0, _, _, _ => none
  | n + 1, mem, x1, x2 => (if (42 : Int32) ≤ x2 then some mem else (bif zk_inb (((42 : Int32) * x1) + x2) 84 then (bif zk_inb x2 42 then zk_let (zk_u mem 4 (Int32.toNatClampNeg x2) (mem.1 6 (Int32.toNatClampNeg (((42 : Int32) * x1) + x2)))) (fun m3 => fMd_back_L25 n m3 x1 (x2 + (1 : Int32))) else none) else none))
def fMd_back (mem : zkM) (a1 : Int32) : Option (Int32 × zkM) :=
  (if (zk_b (fMd_in a1 (0 : Int32) (1 : Int32))) = 0 then some ((-1 : Int32), mem) else (bif zk_inb a1 2 then (if (mem.1 7 (Int32.toNatClampNeg a1)) = 0 then some ((-2 : Int32), mem) else (fMd_back_L25 500 mem a1 (0 : Int32)).bind (fun q2 => zk_let (zk_u q2 0 8 (0 : Int32)) (fun m3 => some (m3.1 4 (Int32.toNatClampNeg (0 : Int32)), m3)))) else none))
def fMd_count (mem : zkM) (a1 : Int32) : Option (Int32) :=
  (if a1 = (0 : Int32) then some (mem.1 0 0) else (if a1 = (1 : Int32) then some (mem.1 0 2) else (if a1 = (2 : Int32) then some (mem.1 0 4) else (if a1 = (3 : Int32) then some (mem.1 0 11) else (if a1 = (4 : Int32) then (fMd_outs_4 mem (6 : Int32)).bind (fun q6 => some q6) else (if a1 = (5 : Int32) then some (mem.1 0 15) else some (-1 : Int32)))))))
def fMd_trace (mem : zkM) : Int64 :=
  mem.2 0 13
def fTree_strip (mem : zkM) : zkM :=
  zk_let (zk_u mem 55 0 (0 : Int32)) (fun m1 => zk_let (zk_u m1 55 1 (0 : Int32)) (fun m2 => zk_let (zk_u m2 55 2 (0 : Int32)) (fun m3 => m3)))
def fScript_isDigit (a0 : Int32) : Bool :=
  (fTp_within a0 (48 : Int32) (57 : Int32))
def fScript_isMark (a0 : Int32) : Bool :=
  (if a0 = (98 : Int32) then true else (if a0 = (112 : Int32) then true else (if a0 = (99 : Int32) then true else (if a0 = (59 : Int32) then true else false))))
def fScript_stepOverNumber_L5 : Nat → zkM → Option (zkM)
  | 0, _ => none
  | n + 1, mem => (if (mem.1 1 1) ≤ (mem.1 1 2) then some mem else (bif zk_inb (mem.1 1 2) 200 then (if (zk_b (fScript_isDigit (mem.1 2 (Int32.toNatClampNeg (mem.1 1 2))))) = 0 then some mem else (bif zk_inb (mem.1 1 2) 200 then zk_let (zk_u mem 1 5 ((((mem.1 1 5) * (10 : Int32)) + (mem.1 2 (Int32.toNatClampNeg (mem.1 1 2)))) - (48 : Int32))) (fun m3 => zk_let (zk_u m3 1 2 ((m3.1 1 2) + (1 : Int32))) (fun m4 => fScript_stepOverNumber_L5 n m4 )) else none)) else none))
def fScript_stepOverNumber (mem : zkM) : Option (zkM) :=
  zk_let (zk_u mem 1 5 (0 : Int32)) (fun m1 => (fScript_stepOverNumber_L5 500 m1 ).bind (fun q2 => zk_let ((q2.1 1 2) - (q2.1 1 3)) (fun v3 => ((if v3 = (1 : Int32) then some true else (if v3 = (2 : Int32) then (bif zk_inb (q2.1 1 3) 200 then (if (q2.1 2 (Int32.toNatClampNeg (q2.1 1 3))) = (48 : Int32) then some false else some true) else none) else some false))).bind (fun q4 => (if (zk_b q4) = 0 then zk_let (zk_u q2 1 4 (2 : Int32)) (fun m9 => some m9) else zk_let (zk_u q2 1 4 (1 : Int32)) (fun m10 => some m10))))))
def fScript_step_L0 : Nat → zkM → Option (zkM)
  | 0, _ => none
  | n + 1, mem => (if (mem.1 1 1) ≤ (mem.1 1 2) then some mem else (bif zk_inb (mem.1 1 2) 200 then (if (mem.1 2 (Int32.toNatClampNeg (mem.1 1 2))) = (32 : Int32) then zk_let (zk_u mem 1 2 ((mem.1 1 2) + (1 : Int32))) (fun m2 => fScript_step_L0 n m2 ) else some mem) else none))
def fScript_step (mem : zkM) : Option (zkM) :=
  (fScript_step_L0 500 mem ).bind (fun q1 => zk_let (zk_u q1 1 3 (q1.1 1 2)) (fun m2 => (if (m2.1 1 2) < (m2.1 1 1) then (bif zk_inb (m2.1 1 2) 200 then (if (zk_b (fScript_isDigit (m2.1 2 (Int32.toNatClampNeg (m2.1 1 2))))) = 0 then (bif zk_inb (m2.1 1 2) 200 then ((if (zk_b (fScript_isMark (m2.1 2 (Int32.toNatClampNeg (m2.1 1 2))))) = 0 then some (2 : Int32) else (bif zk_inb (m2.1 1 2) 200 then some (m2.1 2 (Int32.toNatClampNeg (m2.1 1 2))) else none))).bind (fun q5 => zk_let (zk_u m2 1 4 q5) (fun m8 => zk_let (zk_u m8 1 2 ((m8.1 1 2) + (1 : Int32))) (fun m9 => some m9))) else none) else (fScript_stepOverNumber m2).bind (fun q10 => some q10)) else none) else zk_let (zk_u m2 1 4 (0 : Int32)) (fun m12 => some m12))))
def fTree_hasRoomFor (mem : zkM) (a1 : Int32) : Bool :=
  (if a1 = (98 : Int32) then (if (8 : Int32) ≤ (mem.1 55 0) then false else true) else (if a1 = (99 : Int32) then (if (5 : Int32) ≤ (mem.1 55 2) then false else true) else (if a1 = (112 : Int32) then (if (6 : Int32) ≤ (mem.1 55 1) then false else true) else false)))
def fScript_numbersOf (a0 : Int32) : Int32 :=
  (if a0 = (98 : Int32) then (3 : Int32) else (if a0 = (99 : Int32) then (2 : Int32) else (if a0 = (112 : Int32) then (5 : Int32) else (0 : Int32))))
def fTree_farApart (mem : zkM) (a1 : Int32) (a2 : Int32) : Option (Bool) :=
  (bif zk_inb a1 8 then (bif zk_inb a2 8 then (if (zk_abs ((mem.1 56 (Int32.toNatClampNeg a1)) - (mem.1 56 (Int32.toNatClampNeg a2)))) ≤ (2 : Int32) then some false else some true) else none) else none)
def fScript_mayBeUnder (mem : zkM) (a2 : Int32) : Option (Bool) :=
  (if (mem.1 1 5) < (mem.1 55 0) then (if a2 = 0 then some true else (if (mem.1 1 5) = (mem.1 3 (Int32.toNatClampNeg (0 : Int32))) then some false else (fTree_farApart mem (mem.1 3 (Int32.toNatClampNeg (0 : Int32))) (mem.1 1 5)).bind (fun q1 => (if (zk_b q1) = 0 then some true else some false)))) else some false)
def fScript_mayStand (mem : zkM) (a2 : Int32) (a3 : Int32) : Option (Bool) :=
  (if a2 = (98 : Int32) then (bif zk_inb a3 3 then (bif zk_inb a3 3 then some (fTp_within (mem.1 1 5) ((zk_stt.getD 0 ("", [])).2.getD (Int32.toNatClampNeg a3) 0) ((zk_stt.getD 1 ("", [])).2.getD (Int32.toNatClampNeg a3) 0)) else none) else none) else (if a2 = (99 : Int32) then (bif zk_inb a3 2 then (bif zk_inb a3 2 then some (fTp_within (mem.1 1 5) ((zk_stt.getD 4 ("", [])).2.getD (Int32.toNatClampNeg a3) 0) ((zk_stt.getD 5 ("", [])).2.getD (Int32.toNatClampNeg a3) 0)) else none) else none) else (if a2 = (112 : Int32) then (bif zk_inb a3 5 then (bif zk_inb a3 5 then (if (zk_b (fTp_within (mem.1 1 5) ((zk_stt.getD 2 ("", [])).2.getD (Int32.toNatClampNeg a3) 0) ((zk_stt.getD 3 ("", [])).2.getD (Int32.toNatClampNeg a3) 0))) = 0 then some false else (if (1 : Int32) < a3 then some true else (fScript_mayBeUnder mem a3).bind (fun q10 => (if (zk_b q10) = 0 then some false else some true)))) else none) else none) else some false)))
def fTree_take_3 (mem : zkM) (a1 : Int32) : Option (zkM) :=
  (if (zk_b (fTree_hasRoomFor mem a1)) = 0 then some mem else (if a1 = (98 : Int32) then (bif zk_inb (mem.1 55 0) 8 then zk_let (zk_u mem 56 (Int32.toNatClampNeg (mem.1 55 0)) (mem.1 3 (Int32.toNatClampNeg (0 : Int32)))) (fun m19 => (bif zk_inb (m19.1 55 0) 8 then zk_let (zk_u m19 57 (Int32.toNatClampNeg (m19.1 55 0)) (m19.1 3 (Int32.toNatClampNeg (1 : Int32)))) (fun m21 => (bif zk_inb (m21.1 55 0) 8 then zk_let (zk_u m21 58 (Int32.toNatClampNeg (m21.1 55 0)) (m21.1 3 (Int32.toNatClampNeg (2 : Int32)))) (fun m23 => zk_let (zk_u m23 55 0 ((m23.1 55 0) + (1 : Int32))) (fun m24 => some m24)) else none)) else none)) else none) else (if a1 = (112 : Int32) then (bif zk_inb ((2 : Int32) * (mem.1 55 1)) 12 then zk_let (zk_u mem 60 (Int32.toNatClampNeg ((2 : Int32) * (mem.1 55 1))) (mem.1 3 (Int32.toNatClampNeg (0 : Int32)))) (fun m7 => (bif zk_inb (((2 : Int32) * (m7.1 55 1)) + (1 : Int32)) 12 then zk_let (zk_u m7 60 (Int32.toNatClampNeg (((2 : Int32) * (m7.1 55 1)) + (1 : Int32))) (m7.1 3 (Int32.toNatClampNeg (1 : Int32)))) (fun m9 => (bif zk_inb (m9.1 55 1) 6 then zk_let (zk_u m9 59 (Int32.toNatClampNeg (m9.1 55 1)) (m9.1 3 (Int32.toNatClampNeg (2 : Int32)))) (fun m11 => (bif zk_inb ((2 : Int32) * (m11.1 55 1)) 12 then zk_let (zk_u m11 61 (Int32.toNatClampNeg ((2 : Int32) * (m11.1 55 1))) (m11.1 3 (Int32.toNatClampNeg (3 : Int32)))) (fun m13 => (bif zk_inb (((2 : Int32) * (m13.1 55 1)) + (1 : Int32)) 12 then zk_let (zk_u m13 61 (Int32.toNatClampNeg (((2 : Int32) * (m13.1 55 1)) + (1 : Int32))) (m13.1 3 (Int32.toNatClampNeg (4 : Int32)))) (fun m15 => zk_let (zk_u m15 55 1 ((m15.1 55 1) + (1 : Int32))) (fun m16 => some m16)) else none)) else none)) else none)) else none)) else none) else (bif zk_inb (mem.1 55 2) 5 then zk_let (zk_u mem 62 (Int32.toNatClampNeg (mem.1 55 2)) (mem.1 3 (Int32.toNatClampNeg (0 : Int32)))) (fun m2 => (bif zk_inb (m2.1 55 2) 5 then zk_let (zk_u m2 63 (Int32.toNatClampNeg (m2.1 55 2)) (m2.1 3 (Int32.toNatClampNeg (1 : Int32)))) (fun m4 => zk_let (zk_u m4 55 2 ((m4.1 55 2) + (1 : Int32))) (fun m5 => some m5)) else none)) else none))))
def fScript_readItem_L17 : Nat → zkM → Int32 → Int32 → Option ((Bool × zkM) ⊕ (zkM))
  | 0, _, _, _ => none
  | n + 1, mem, x2, x3 => (if (fScript_numbersOf x2) ≤ x3 then some (.inr mem) else (fScript_step mem).bind (fun q1 => (if (q1.1 1 4) = (1 : Int32) then (fScript_mayStand q1 x2 x3).bind (fun q2 => (if (zk_b q2) = 0 then some (.inl (false, q1)) else (bif zk_inb x3 5 then zk_let (zk_u q1 3 (Int32.toNatClampNeg x3) (q1.1 1 5)) (fun m4 => fScript_readItem_L17 n m4 x2 (x3 + (1 : Int32))) else none))) else some (.inl (false, q1)))))
def fScript_readItem (mem : zkM) : Option (Bool × zkM) :=
  zk_let (mem.1 1 4) (fun v1 => (if (zk_b (fTree_hasRoomFor mem v1)) = 0 then some (false, mem) else (fScript_readItem_L17 500 mem v1 (0 : Int32)).bind (fun q2 => Sum.elim (fun y => some y) (fun q3 => (fScript_step q3).bind (fun q4 => (if (q4.1 1 4) = (59 : Int32) then (fTree_take_3 q4 v1).bind (fun q5 => some (true, q5)) else some (false, q4)))) q2)))
def fScript_readInto_L15 : Nat → zkM → Int32 → Option ((Int32 × zkM) ⊕ (Int32 × zkM))
  | 0, _, _ => none
  | n + 1, mem, x2 => (if (mem.1 1 4) = 0 then some (.inr (x2, mem)) else (if (200 : Int32) ≤ x2 then some (.inr (x2, mem)) else (fScript_readItem mem).bind (fun q1 => (if (zk_b q1.1) = 0 then some (.inl ((-10 : Int32) - (q1.2.1 1 3), q1.2)) else (fScript_step q1.2).bind (fun q2 => fScript_readInto_L15 n q2 (x2 + (1 : Int32)))))))
def fScript_readInto (mem : zkM) : Option (Int32 × zkM) :=
  zk_let (fTree_strip mem) (fun q1 => zk_let (zk_u q1 1 2 (0 : Int32)) (fun m2 => (fScript_step m2).bind (fun q3 => (fScript_readInto_L15 500 q3 (0 : Int32)).bind (fun q4 => Sum.elim (fun y => some y) (fun q5 => some (q5.1, q5.2)) q4))))
def fScene_begin_L2 : Nat → zkM → Int32 → Option (zkM)
  | 0, _, _ => none
  | n + 1, mem, x2 => (if (5 : Int32) ≤ x2 then some mem else (bif zk_inb x2 42 then zk_let (zk_u mem 5 (Int32.toNatClampNeg x2) (-9 : Int32)) (fun m2 => fScene_begin_L2 n m2 (x2 + (1 : Int32))) else none))
def fScene_begin_L23 : Nat → zkM → Int32 → Option (zkM)
  | 0, _, _ => none
  | n + 1, mem, x2 => (if (12 : Int32) ≤ x2 then some mem else (bif zk_inb x2 12 then (fScene_doAnew mem x2 (mem.1 52 (Int32.toNatClampNeg x2))).bind (fun q2 => fScene_begin_L23 n q2 (x2 + (1 : Int32))) else none))
def fScene_begin (mem : zkM) : Option (zkM) :=
  (fScene_begin_L2 500 mem (0 : Int32)).bind (fun q1 => (fScene_begin_L23 500 q1 (0 : Int32)).bind (fun q2 => zk_let (zk_u q2 5 (Int32.toNatClampNeg (41 : Int32)) (0 : Int32)) (fun m3 => some m3)))
def fAlbum_lose_L2 : Nat → zkM → Int32 → Option (zkM)
  | 0, _, _ => none
  | n + 1, mem, x1 => (if (2 : Int32) ≤ x1 then some mem else (bif zk_inb x1 2 then zk_let (zk_u mem 25 (Int32.toNatClampNeg x1) (0 : Int32)) (fun m2 => fAlbum_lose_L2 n m2 (x1 + (1 : Int32))) else none))
def fAlbum_lose (mem : zkM) : Option (zkM) :=
  (fAlbum_lose_L2 500 mem (0 : Int32)).bind (fun q1 => some q1)
def fTp_tree (mem : zkM) : Option (Int32 × zkM) :=
  (fScript_readInto mem).bind (fun q1 => (if 0 ≤ q1.1 then zk_let (zk_swap q1.2) (fun m2 => zk_let (zk_u m2 1 1 (0 : Int32)) (fun m3 => (fScene_begin m3).bind (fun q4 => zk_let (fPast_lose q4) (fun q5 => (fAlbum_lose q5).bind (fun q6 => zk_let (zk_u q6 26 0 (0 : Int32)) (fun m7 => some (q1.1, m7))))))) else some (q1.1, q1.2)))
