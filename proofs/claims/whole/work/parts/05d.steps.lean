def sX_type (y : zkM) (a1 : Int32) (v : Int32) (y' : zkM) : Prop := fTp_type y a1 = some (v, y')
theorem sX_type_ok {y y' : zkM} {a1 : Int32} {v : Int32} (h : sX_type y a1 v y') : zk_X zSX 1 zY_X11_type [.ref 0, .int a1] y (some (.int v), y') := fTp_type_ok (d := 1) (Nat.le_refl _) _ a1 (v, y') h
def sM_type (y : zkM) (a1 : Int32) (v : Int32) (y' : zkM) : Prop := fMd_type y a1 = some (v, y')
theorem sM_type_ok {y y' : zkM} {a1 : Int32} {v : Int32} (h : sM_type y a1 v y') : zk_X zSM 1 zY_X12_type [.ref 0, .int a1] y (some (.int v), y') := fMd_type_ok (d := 1) (Nat.le_refl _) _ a1 (v, y') h
def sX_clear (y : zkM) (v : Int32) (y' : zkM) : Prop := fTp_clear y = (v, y')
theorem sX_clear_ok {y y' : zkM} {v : Int32} (h : sX_clear y v y') : zk_X zSX 0 zY_X11_clear [.ref 0] y (some (.int v), y') := fTp_clear_ok (d := 0) (Nat.le_refl _) _ (v, y') h
def sM_clear (y : zkM) (v : Int32) (y' : zkM) : Prop := fMd_clear y = (v, y')
theorem sM_clear_ok {y y' : zkM} {v : Int32} (h : sM_clear y v y') : zk_X zSM 0 zY_X12_clear [.ref 0] y (some (.int v), y') := fMd_clear_ok (d := 0) (Nat.le_refl _) _ (v, y') h
def sX_tree (y : zkM) (v : Int32) (y' : zkM) : Prop := fTp_tree y = some (v, y')
theorem sX_tree_ok {y y' : zkM} {v : Int32} (h : sX_tree y v y') : zk_Xt 6 zY_X11_tree [.ref 0] y (some (.int v), y') := fTp_tree_ok (d := 6) (Nat.le_refl _) _ (v, y') h
def sM_tree (y : zkM) (v : Int32) (y' : zkM) : Prop := fMd_tree y = some (v, y')
theorem sM_tree_ok {y y' : zkM} {v : Int32} (h : sM_tree y v y') : zk_X zSM 6 zY_X12_tree [.ref 0] y (some (.int v), y') := fMd_tree_ok (d := 6) (Nat.le_refl _) _ (v, y') h
def sX_bough (y : zkM) (a1 : Int32) (a2 : Int32) (v : Int32) (y' : zkM) : Prop := fTp_bough y a1 a2 = some (v, y')
theorem sX_bough_ok {y y' : zkM} {a1 : Int32} {a2 : Int32} {v : Int32} (h : sX_bough y a1 a2 v y') : zk_X zSX 2 zY_X11_bough [.ref 0, .int a1, .int a2] y (some (.int v), y') := fTp_bough_ok (d := 2) (Nat.le_refl _) _ a1 a2 (v, y') h
def sM_bough (y : zkM) (a1 : Int32) (a2 : Int32) (v : Int32) (y' : zkM) : Prop := fMd_bough y a1 a2 = some (v, y')
theorem sM_bough_ok {y y' : zkM} {a1 : Int32} {a2 : Int32} {v : Int32} (h : sM_bough y a1 a2 v y') : zk_X zSM 2 zY_X12_bough [.ref 0, .int a1, .int a2] y (some (.int v), y') := fMd_bough_ok (d := 2) (Nat.le_refl _) _ a1 a2 (v, y') h
def sX_plank (y : zkM) (a1 : Int32) (a2 : Int32) (v : Int32) (y' : zkM) : Prop := fTp_plank y a1 a2 = some (v, y')
theorem sX_plank_ok {y y' : zkM} {a1 : Int32} {a2 : Int32} {v : Int32} (h : sX_plank y a1 a2 v y') : zk_X zSX 2 zY_X11_plank [.ref 0, .int a1, .int a2] y (some (.int v), y') := fTp_plank_ok (d := 2) (Nat.le_refl _) _ a1 a2 (v, y') h
def sM_plank (y : zkM) (a1 : Int32) (a2 : Int32) (v : Int32) (y' : zkM) : Prop := fMd_plank y a1 a2 = some (v, y')
theorem sM_plank_ok {y y' : zkM} {a1 : Int32} {a2 : Int32} {v : Int32} (h : sM_plank y a1 a2 v y') : zk_X zSM 2 zY_X12_plank [.ref 0, .int a1, .int a2] y (some (.int v), y') := fMd_plank_ok (d := 2) (Nat.le_refl _) _ a1 a2 (v, y') h
def sX_end (y : zkM) (a1 : Int32) (a2 : Int32) (a3 : Int32) (v : Int32) (y' : zkM) : Prop := fTp_end y a1 a2 a3 = some v ∧ y' = y
theorem sX_end_ok {y y' : zkM} {a1 : Int32} {a2 : Int32} {a3 : Int32} {v : Int32} (h : sX_end y a1 a2 a3 v y') : zk_X zSX 3 zY_X11_end [.ref 0, .int a1, .int a2, .int a3] y (some (.int v), y') := by
  obtain ⟨h, e⟩ := h
  subst e
  exact fTp_end_ok (d := 3) (Nat.le_refl _) _ a1 a2 a3 v h
def sM_end (y : zkM) (a1 : Int32) (a2 : Int32) (a3 : Int32) (v : Int32) (y' : zkM) : Prop := fMd_end y a1 a2 a3 = some v ∧ y' = y
theorem sM_end_ok {y y' : zkM} {a1 : Int32} {a2 : Int32} {a3 : Int32} {v : Int32} (h : sM_end y a1 a2 a3 v y') : zk_X zSM 2 zY_X12_end [.ref 0, .int a1, .int a2, .int a3] y (some (.int v), y') := by
  obtain ⟨h, e⟩ := h
  subst e
  exact fMd_end_ok (d := 2) (Nat.le_refl _) _ a1 a2 a3 v h
def sX_child (y : zkM) (a1 : Int32) (a2 : Int32) (v : Int32) (y' : zkM) : Prop := fTp_child y a1 a2 = some v ∧ y' = y
theorem sX_child_ok {y y' : zkM} {a1 : Int32} {a2 : Int32} {v : Int32} (h : sX_child y a1 a2 v y') : zk_X zSX 2 zY_X11_child [.ref 0, .int a1, .int a2] y (some (.int v), y') := by
  obtain ⟨h, e⟩ := h
  subst e
  exact fTp_child_ok (d := 2) (Nat.le_refl _) _ a1 a2 v h
def sM_child (y : zkM) (a1 : Int32) (a2 : Int32) (v : Int32) (y' : zkM) : Prop := fMd_child y a1 a2 = some v ∧ y' = y
theorem sM_child_ok {y y' : zkM} {a1 : Int32} {a2 : Int32} {v : Int32} (h : sM_child y a1 a2 v y') : zk_X zSM 2 zY_X12_child [.ref 0, .int a1, .int a2] y (some (.int v), y') := by
  obtain ⟨h, e⟩ := h
  subst e
  exact fMd_child_ok (d := 2) (Nat.le_refl _) _ a1 a2 v h
def sX_now (y : zkM) (a1 : Int32) (v : Int32) (y' : zkM) : Prop := fTp_now y a1 = some (v, y')
theorem sX_now_ok {y y' : zkM} {a1 : Int32} {v : Int32} (h : sX_now y a1 v y') : zk_X zSX 4 zY_X11_now [.ref 0, .int a1] y (some (.int v), y') := fTp_now_ok (d := 4) (Nat.le_refl _) _ a1 (v, y') h
def sM_now (y : zkM) (a1 : Int32) (v : Int32) (y' : zkM) : Prop := fMd_now y a1 = some (v, y')
theorem sM_now_ok {y y' : zkM} {a1 : Int32} {v : Int32} (h : sM_now y a1 v y') : zk_X zSM 2 zY_X12_now [.ref 0, .int a1] y (some (.int v), y') := fMd_now_ok (d := 2) (Nat.le_refl _) _ a1 (v, y') h
def sX_stands (y : zkM) (a1 : Int32) (a2 : Int32) (v : Int32) (y' : zkM) : Prop := fTp_stands y a1 a2 = some (v, y')
theorem sX_stands_ok {y y' : zkM} {a1 : Int32} {a2 : Int32} {v : Int32} (h : sX_stands y a1 a2 v y') : zk_X zSX 2 zY_X11_stands [.ref 0, .int a1, .int a2] y (some (.int v), y') := fTp_stands_ok (d := 2) (Nat.le_refl _) _ a1 a2 (v, y') h
def sM_stands (y : zkM) (a1 : Int32) (a2 : Int32) (v : Int32) (y' : zkM) : Prop := fMd_stands y a1 a2 = some (v, y')
theorem sM_stands_ok {y y' : zkM} {a1 : Int32} {a2 : Int32} {v : Int32} (h : sM_stands y a1 a2 v y') : zk_X zSM 2 zY_X12_stands [.ref 0, .int a1, .int a2] y (some (.int v), y') := fMd_stands_ok (d := 2) (Nat.le_refl _) _ a1 a2 (v, y') h
def sX_gale (y : zkM) (a1 : Int32) (v : Int32) (y' : zkM) : Prop := fTp_gale y a1 = some (v, y')
theorem sX_gale_ok {y y' : zkM} {a1 : Int32} {v : Int32} (h : sX_gale y a1 v y') : zk_X zSX 3 zY_X11_gale [.ref 0, .int a1] y (some (.int v), y') := fTp_gale_ok (d := 3) (Nat.le_refl _) _ a1 (v, y') h
def sM_gale (y : zkM) (a1 : Int32) (v : Int32) (y' : zkM) : Prop := fMd_gale y a1 = some (v, y')
theorem sM_gale_ok {y y' : zkM} {a1 : Int32} {v : Int32} (h : sM_gale y a1 v y') : zk_X zSM 3 zY_X12_gale [.ref 0, .int a1] y (some (.int v), y') := fMd_gale_ok (d := 3) (Nat.le_refl _) _ a1 (v, y') h
def sX_join (y : zkM) (a1 : Int32) (a2 : Int32) (a3 : Int32) (v : Int32) (y' : zkM) : Prop := fTp_join y a1 a2 a3 = some (v, y')
theorem sX_join_ok {y y' : zkM} {a1 : Int32} {a2 : Int32} {a3 : Int32} {v : Int32} (h : sX_join y a1 a2 a3 v y') : zk_X zSX 3 zY_X11_join [.ref 0, .int a1, .int a2, .int a3] y (some (.int v), y') := fTp_join_ok (d := 3) (Nat.le_refl _) _ a1 a2 a3 (v, y') h
def sM_join (y : zkM) (a1 : Int32) (a2 : Int32) (a3 : Int32) (v : Int32) (y' : zkM) : Prop := fMd_join y a1 a2 a3 = some (v, y')
theorem sM_join_ok {y y' : zkM} {a1 : Int32} {a2 : Int32} {a3 : Int32} {v : Int32} (h : sM_join y a1 a2 a3 v y') : zk_X zSM 2 zY_X12_join [.ref 0, .int a1, .int a2, .int a3] y (some (.int v), y') := fMd_join_ok (d := 2) (Nat.le_refl _) _ a1 a2 a3 (v, y') h
def sX_spring (y : zkM) (v : Int32) (y' : zkM) : Prop := fTp_spring y = some (v, y')
theorem sX_spring_ok {y y' : zkM} {v : Int32} (h : sX_spring y v y') : zk_X zSX 2 zY_X11_spring [.ref 0] y (some (.int v), y') := fTp_spring_ok (d := 2) (Nat.le_refl _) _ (v, y') h
def sM_spring (y : zkM) (v : Int32) (y' : zkM) : Prop := fMd_spring y = some (v, y')
theorem sM_spring_ok {y y' : zkM} {v : Int32} (h : sM_spring y v y') : zk_X zSM 1 zY_X12_spring [.ref 0] y (some (.int v), y') := fMd_spring_ok (d := 1) (Nat.le_refl _) _ (v, y') h
def sX_undo (y : zkM) (v : Int32) (y' : zkM) : Prop := fTp_undo y = some (v, y')
theorem sX_undo_ok {y y' : zkM} {v : Int32} (h : sX_undo y v y') : zk_X zSX 2 zY_X11_undo [.ref 0] y (some (.int v), y') := fTp_undo_ok (d := 2) (Nat.le_refl _) _ (v, y') h
def sM_undo (y : zkM) (v : Int32) (y' : zkM) : Prop := fMd_undo y = some (v, y')
theorem sM_undo_ok {y y' : zkM} {v : Int32} (h : sM_undo y v y') : zk_X zSM 0 zY_X12_undo [.ref 0] y (some (.int v), y') := fMd_undo_ok (d := 0) (Nat.le_refl _) _ (v, y') h
def sX_most (y : zkM) (a1 : Int32) (v : Int32) (y' : zkM) : Prop := fTp_most y a1 = some (v, y')
theorem sX_most_ok {y y' : zkM} {a1 : Int32} {v : Int32} (h : sX_most y a1 v y') : zk_X zSX 17 zY_X11_most [.ref 0, .int a1] y (some (.int v), y') := fTp_most_ok (d := 17) (Nat.le_refl _) _ a1 (v, y') h
def sM_most (y : zkM) (a1 : Int32) (v : Int32) (y' : zkM) : Prop := fMd_most y a1 = some (v, y')
theorem sM_most_ok {y y' : zkM} {a1 : Int32} {v : Int32} (h : sM_most y a1 v y') : zk_X zSM 4 zY_X12_most [.ref 0, .int a1] y (some (.int v), y') := fMd_most_ok (d := 4) (Nat.le_refl _) _ a1 (v, y') h
def sX_richest (y : zkM) (a1 : Int32) (v : Int32) (y' : zkM) : Prop := fTp_richest y a1 = some (v, y')
theorem sX_richest_ok {y y' : zkM} {a1 : Int32} {v : Int32} (h : sX_richest y a1 v y') : zk_X zSX 17 zY_X11_richest [.ref 0, .int a1] y (some (.int v), y') := fTp_richest_ok (d := 17) (Nat.le_refl _) _ a1 (v, y') h
def sM_richest (y : zkM) (a1 : Int32) (v : Int32) (y' : zkM) : Prop := fMd_richest y a1 = some (v, y')
theorem sM_richest_ok {y y' : zkM} {a1 : Int32} {v : Int32} (h : sM_richest y a1 v y') : zk_X zSM 4 zY_X12_richest [.ref 0, .int a1] y (some (.int v), y') := fMd_richest_ok (d := 4) (Nat.le_refl _) _ a1 (v, y') h
def sX_firstOut (y : zkM) (a1 : Int32) (a2 : Int32) (v : Int32) (y' : zkM) : Prop := fTp_firstOut y a1 a2 = some (v, y')
theorem sX_firstOut_ok {y y' : zkM} {a1 : Int32} {a2 : Int32} {v : Int32} (h : sX_firstOut y a1 a2 v y') : zk_X zSX 5 zY_X11_firstOut [.ref 0, .int a1, .int a2] y (some (.int v), y') := fTp_firstOut_ok (d := 5) (Nat.le_refl _) _ a1 a2 (v, y') h
def sM_firstOut (y : zkM) (a1 : Int32) (a2 : Int32) (v : Int32) (y' : zkM) : Prop := fMd_firstOut y a1 a2 = some (v, y')
theorem sM_firstOut_ok {y y' : zkM} {a1 : Int32} {a2 : Int32} {v : Int32} (h : sM_firstOut y a1 a2 v y') : zk_X zSM 3 zY_X12_firstOut [.ref 0, .int a1, .int a2] y (some (.int v), y') := fMd_firstOut_ok (d := 3) (Nat.le_refl _) _ a1 a2 (v, y') h
def sX_holdsFor (y : zkM) (a1 : Int32) (v : Int32) (y' : zkM) : Prop := fTp_holdsFor y a1 = some (v, y')
theorem sX_holdsFor_ok {y y' : zkM} {a1 : Int32} {v : Int32} (h : sX_holdsFor y a1 v y') : zk_X zSX 5 zY_X11_holdsFor [.ref 0, .int a1] y (some (.int v), y') := fTp_holdsFor_ok (d := 5) (Nat.le_refl _) _ a1 (v, y') h
def sM_holdsFor (y : zkM) (a1 : Int32) (v : Int32) (y' : zkM) : Prop := fMd_holdsFor y a1 = some (v, y')
theorem sM_holdsFor_ok {y y' : zkM} {a1 : Int32} {v : Int32} (h : sM_holdsFor y a1 v y') : zk_X zSM 3 zY_X12_holdsFor [.ref 0, .int a1] y (some (.int v), y') := fMd_holdsFor_ok (d := 3) (Nat.le_refl _) _ a1 (v, y') h
def sX_bolts (y : zkM) (a1 : Int32) (a2 : Int32) (a3 : Int32) (v : Int32) (y' : zkM) : Prop := fTp_bolts y a1 a2 a3 = some (v, y')
theorem sX_bolts_ok {y y' : zkM} {a1 : Int32} {a2 : Int32} {a3 : Int32} {v : Int32} (h : sX_bolts y a1 a2 a3 v y') : zk_X zSX 5 zY_X11_bolts [.ref 0, .int a1, .int a2, .int a3] y (some (.int v), y') := fTp_bolts_ok (d := 5) (Nat.le_refl _) _ a1 a2 a3 (v, y') h
def sM_bolts (y : zkM) (a1 : Int32) (a2 : Int32) (a3 : Int32) (v : Int32) (y' : zkM) : Prop := fMd_bolts y a1 a2 a3 = some (v, y')
theorem sM_bolts_ok {y y' : zkM} {a1 : Int32} {a2 : Int32} {a3 : Int32} {v : Int32} (h : sM_bolts y a1 a2 a3 v y') : zk_X zSM 3 zY_X12_bolts [.ref 0, .int a1, .int a2, .int a3] y (some (.int v), y') := fMd_bolts_ok (d := 3) (Nat.le_refl _) _ a1 a2 a3 (v, y') h
def sX_odds (y : zkM) (a1 : Int32) (a2 : Int32) (a3 : Int32) (a4 : Int32) (v : Int64) (y' : zkM) : Prop := fTp_odds y a1 a2 a3 a4 = some (v, y')
theorem sX_odds_ok {y y' : zkM} {a1 : Int32} {a2 : Int32} {a3 : Int32} {a4 : Int32} {v : Int64} (h : sX_odds y a1 a2 a3 a4 v y') : zk_X zSX 3 zY_X11_odds [.ref 0, .int a1, .int a2, .int a3, .int a4] y (some (.long v), y') := fTp_odds_ok (d := 3) (Nat.le_refl _) _ a1 a2 a3 a4 (v, y') h
def sM_odds (y : zkM) (a1 : Int32) (a2 : Int32) (a3 : Int32) (a4 : Int32) (v : Int64) (y' : zkM) : Prop := fMd_odds y a1 a2 a3 a4 = some (v, y')
theorem sM_odds_ok {y y' : zkM} {a1 : Int32} {a2 : Int32} {a3 : Int32} {a4 : Int32} {v : Int64} (h : sM_odds y a1 a2 a3 a4 v y') : zk_X zSM 2 zY_X12_odds [.ref 0, .int a1, .int a2, .int a3, .int a4] y (some (.long v), y') := fMd_odds_ok (d := 2) (Nat.le_refl _) _ a1 a2 a3 a4 (v, y') h
def sX_orders (y : zkM) (a1 : Int32) (v : Int32) (y' : zkM) : Prop := fTp_orders y a1 = some (v, y')
theorem sX_orders_ok {y y' : zkM} {a1 : Int32} {v : Int32} (h : sX_orders y a1 v y') : zk_X zSX 4 zY_X11_orders [.ref 0, .int a1] y (some (.int v), y') := fTp_orders_ok (d := 4) (Nat.le_refl _) _ a1 (v, y') h
def sM_orders (y : zkM) (a1 : Int32) (v : Int32) (y' : zkM) : Prop := fMd_orders y a1 = some (v, y')
theorem sM_orders_ok {y y' : zkM} {a1 : Int32} {v : Int32} (h : sM_orders y a1 v y') : zk_X zSM 3 zY_X12_orders [.ref 0, .int a1] y (some (.int v), y') := fMd_orders_ok (d := 3) (Nat.le_refl _) _ a1 (v, y') h
def sX_barred (y : zkM) (v : Int32) (y' : zkM) : Prop := fTp_barred y = some v ∧ y' = y
theorem sX_barred_ok {y y' : zkM} {v : Int32} (h : sX_barred y v y') : zk_X zSX 4 zY_X11_barred [.ref 0] y (some (.int v), y') := by
  obtain ⟨h, e⟩ := h
  subst e
  exact fTp_barred_ok (d := 4) (Nat.le_refl _) _ v h
def sM_barred (y : zkM) (v : Int32) (y' : zkM) : Prop := fMd_barred y = some v ∧ y' = y
theorem sM_barred_ok {y y' : zkM} {v : Int32} (h : sM_barred y v y') : zk_X zSM 2 zY_X12_barred [.ref 0] y (some (.int v), y') := by
  obtain ⟨h, e⟩ := h
  subst e
  exact fMd_barred_ok (d := 2) (Nat.le_refl _) _ v h
def sX_hoist (y : zkM) (a1 : Int32) (a2 : Int32) (v : Int32) (y' : zkM) : Prop := fTp_hoist y a1 a2 = some (v, y')
theorem sX_hoist_ok {y y' : zkM} {a1 : Int32} {a2 : Int32} {v : Int32} (h : sX_hoist y a1 a2 v y') : zk_X zSX 2 zY_X11_hoist [.ref 0, .int a1, .int a2] y (some (.int v), y') := fTp_hoist_ok (d := 2) (Nat.le_refl _) _ a1 a2 (v, y') h
def sM_hoist (y : zkM) (a1 : Int32) (a2 : Int32) (v : Int32) (y' : zkM) : Prop := fMd_hoist y a1 a2 = some (v, y')
theorem sM_hoist_ok {y y' : zkM} {a1 : Int32} {a2 : Int32} {v : Int32} (h : sM_hoist y a1 a2 v y') : zk_X zSM 2 zY_X12_hoist [.ref 0, .int a1, .int a2] y (some (.int v), y') := fMd_hoist_ok (d := 2) (Nat.le_refl _) _ a1 a2 (v, y') h
def sX_test (y : zkM) (a1 : Int32) (a2 : Int32) (a3 : Int32) (v : Int32) (y' : zkM) : Prop := fTp_test y a1 a2 a3 = some (v, y')
theorem sX_test_ok {y y' : zkM} {a1 : Int32} {a2 : Int32} {a3 : Int32} {v : Int32} (h : sX_test y a1 a2 a3 v y') : zk_X zSX 2 zY_X11_test [.ref 0, .int a1, .int a2, .int a3] y (some (.int v), y') := fTp_test_ok (d := 2) (Nat.le_refl _) _ a1 a2 a3 (v, y') h
def sM_test (y : zkM) (a1 : Int32) (a2 : Int32) (a3 : Int32) (v : Int32) (y' : zkM) : Prop := fMd_test y a1 a2 a3 = some (v, y')
theorem sM_test_ok {y y' : zkM} {a1 : Int32} {a2 : Int32} {a3 : Int32} {v : Int32} (h : sM_test y a1 a2 a3 v y') : zk_X zSM 2 zY_X12_test [.ref 0, .int a1, .int a2, .int a3] y (some (.int v), y') := fMd_test_ok (d := 2) (Nat.le_refl _) _ a1 a2 a3 (v, y') h
def sX_forget (y : zkM) (v : Int32) (y' : zkM) : Prop := fTp_forget y = (v, y')
theorem sX_forget_ok {y y' : zkM} {v : Int32} (h : sX_forget y v y') : zk_X zSX 0 zY_X11_forget [.ref 0] y (some (.int v), y') := fTp_forget_ok (d := 0) (Nat.le_refl _) _ (v, y') h
def sM_forget (y : zkM) (v : Int32) (y' : zkM) : Prop := fMd_forget y = (v, y')
theorem sM_forget_ok {y y' : zkM} {v : Int32} (h : sM_forget y v y') : zk_X zSM 0 zY_X12_forget [.ref 0] y (some (.int v), y') := fMd_forget_ok (d := 0) (Nat.le_refl _) _ (v, y') h
def sX_mayBe (y : zkM) (v : Int32) (y' : zkM) : Prop := fTp_mayBe y = some v ∧ y' = y
theorem sX_mayBe_ok {y y' : zkM} {v : Int32} (h : sX_mayBe y v y') : zk_X zSX 3 zY_X11_mayBe [.ref 0] y (some (.int v), y') := by
  obtain ⟨h, e⟩ := h
  subst e
  exact fTp_mayBe_ok (d := 3) (Nat.le_refl _) _ v h
def sM_mayBe (y : zkM) (v : Int32) (y' : zkM) : Prop := fMd_mayBe y = some v ∧ y' = y
theorem sM_mayBe_ok {y y' : zkM} {v : Int32} (h : sM_mayBe y v y') : zk_X zSM 2 zY_X12_mayBe [.ref 0] y (some (.int v), y') := by
  obtain ⟨h, e⟩ := h
  subst e
  exact fMd_mayBe_ok (d := 2) (Nat.le_refl _) _ v h
def sX_ask (y : zkM) (a1 : Int32) (v : Int32) (y' : zkM) : Prop := fTp_ask y a1 = some (v, y')
theorem sX_ask_ok {y y' : zkM} {a1 : Int32} {v : Int32} (h : sX_ask y a1 v y') : zk_X zSX 4 zY_X11_ask [.ref 0, .int a1] y (some (.int v), y') := fTp_ask_ok (d := 4) (Nat.le_refl _) _ a1 (v, y') h
def sM_ask (y : zkM) (a1 : Int32) (v : Int32) (y' : zkM) : Prop := fMd_ask y a1 = some v ∧ y' = y
theorem sM_ask_ok {y y' : zkM} {a1 : Int32} {v : Int32} (h : sM_ask y a1 v y') : zk_X zSM 2 zY_X12_ask [.ref 0, .int a1] y (some (.int v), y') := by
  obtain ⟨h, e⟩ := h
  subst e
  exact fMd_ask_ok (d := 2) (Nat.le_refl _) _ a1 v h
def sX_rate (y : zkM) (a1 : Int32) (a2 : Int32) (v : Int32) (y' : zkM) : Prop := fTp_rate y a1 a2 = some (v, y')
theorem sX_rate_ok {y y' : zkM} {a1 : Int32} {a2 : Int32} {v : Int32} (h : sX_rate y a1 a2 v y') : zk_X zSX 4 zY_X11_rate [.ref 0, .int a1, .int a2] y (some (.int v), y') := fTp_rate_ok (d := 4) (Nat.le_refl _) _ a1 a2 (v, y') h
def sM_rate (y : zkM) (a1 : Int32) (a2 : Int32) (v : Int32) (y' : zkM) : Prop := fMd_rate y a1 a2 = some (v, y')
theorem sM_rate_ok {y y' : zkM} {a1 : Int32} {a2 : Int32} {v : Int32} (h : sM_rate y a1 a2 v y') : zk_X zSM 2 zY_X12_rate [.ref 0, .int a1, .int a2] y (some (.int v), y') := fMd_rate_ok (d := 2) (Nat.le_refl _) _ a1 a2 (v, y') h
def sX_keep (y : zkM) (a1 : Int32) (v : Int32) (y' : zkM) : Prop := fTp_keep y a1 = some (v, y')
theorem sX_keep_ok {y y' : zkM} {a1 : Int32} {v : Int32} (h : sX_keep y a1 v y') : zk_X zSX 2 zY_X11_keep [.ref 0, .int a1] y (some (.int v), y') := fTp_keep_ok (d := 2) (Nat.le_refl _) _ a1 (v, y') h
def sM_keep (y : zkM) (a1 : Int32) (v : Int32) (y' : zkM) : Prop := fMd_keep y a1 = some (v, y')
theorem sM_keep_ok {y y' : zkM} {a1 : Int32} {v : Int32} (h : sM_keep y a1 v y') : zk_X zSM 1 zY_X12_keep [.ref 0, .int a1] y (some (.int v), y') := fMd_keep_ok (d := 1) (Nat.le_refl _) _ a1 (v, y') h
def sX_back (y : zkM) (a1 : Int32) (v : Int32) (y' : zkM) : Prop := fTp_back y a1 = some (v, y')
theorem sX_back_ok {y y' : zkM} {a1 : Int32} {v : Int32} (h : sX_back y a1 v y') : zk_X zSX 2 zY_X11_back [.ref 0, .int a1] y (some (.int v), y') := fTp_back_ok (d := 2) (Nat.le_refl _) _ a1 (v, y') h
def sM_back (y : zkM) (a1 : Int32) (v : Int32) (y' : zkM) : Prop := fMd_back y a1 = some (v, y')
theorem sM_back_ok {y y' : zkM} {a1 : Int32} {v : Int32} (h : sM_back y a1 v y') : zk_X zSM 1 zY_X12_back [.ref 0, .int a1] y (some (.int v), y') := fMd_back_ok (d := 1) (Nat.le_refl _) _ a1 (v, y') h
def sX_count (y : zkM) (a1 : Int32) (v : Int32) (y' : zkM) : Prop := fTp_count y a1 = some v ∧ y' = y
theorem sX_count_ok {y y' : zkM} {a1 : Int32} {v : Int32} (h : sX_count y a1 v y') : zk_X zSX 3 zY_X11_count [.ref 0, .int a1] y (some (.int v), y') := by
  obtain ⟨h, e⟩ := h
  subst e
  exact fTp_count_ok (d := 3) (Nat.le_refl _) _ a1 v h
def sM_count (y : zkM) (a1 : Int32) (v : Int32) (y' : zkM) : Prop := fMd_count y a1 = some v ∧ y' = y
theorem sM_count_ok {y y' : zkM} {a1 : Int32} {v : Int32} (h : sM_count y a1 v y') : zk_X zSM 1 zY_X12_count [.ref 0, .int a1] y (some (.int v), y') := by
  obtain ⟨h, e⟩ := h
  subst e
  exact fMd_count_ok (d := 1) (Nat.le_refl _) _ a1 v h
def sX_trace (y : zkM) (v : Int64) (y' : zkM) : Prop := fTp_trace y = v ∧ y' = y
theorem sX_trace_ok {y y' : zkM} {v : Int64} (h : sX_trace y v y') : zk_X zSX 0 zY_X11_trace [.ref 0] y (some (.long v), y') := by
  obtain ⟨h, e⟩ := h
  subst e
  exact fTp_trace_ok (d := 0) (Nat.le_refl _) _ v h
def sM_trace (y : zkM) (v : Int64) (y' : zkM) : Prop := fMd_trace y = v ∧ y' = y
theorem sM_trace_ok {y y' : zkM} {v : Int64} (h : sM_trace y v y') : zk_X zSM 0 zY_X12_trace [.ref 0] y (some (.long v), y') := by
  obtain ⟨h, e⟩ := h
  subst e
  exact fMd_trace_ok (d := 0) (Nat.le_refl _) _ v h
