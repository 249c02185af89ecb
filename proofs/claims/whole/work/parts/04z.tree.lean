set_option maxRecDepth 100000 in
set_option maxHeartbeats 4000000 in
theorem fTp_tree_ok {d : Nat} (hd : 6 ≤ d) (mem : zkM) (z : Int32 × zkM) (h : fTp_tree mem = some z) : zk_Xt d zY_X11_tree [.ref 0] mem (some (.int z.1), z.2) := by
  unfold fTp_tree at h
  refine zk_meetT (n := 2) (lv := [some (.ref 0), none, none]) zpn_X11 rfl (Nat.le_of_ble_eq_true rfl) ?_
  refine zk_aload_n (i := 0) dX11_tree_0 rfl rfl ?_
  refine zk_getR 0 11 0 dX11_tree_1 zf_X11_10 (Nat.le_of_ble_eq_true rfl) rfl rfl ?_
  refine zk_aload_n (i := 0) dX11_tree_4 rfl rfl ?_
  refine zk_getR 0 11 11 dX11_tree_5 zf_X11_86 (Nat.le_of_ble_eq_true rfl) rfl rfl ?_
  obtain ⟨q1, hq1, h⟩ := zk_ob h
  refine zk_callVi zY_X9_readInto 1 9 [_] dX11_tree_8 zl_X9_readInto zc_X11_105 zk_ok9 (Nat.le_of_ble_eq_true rfl) rfl (fScript_readInto_ok (d := 5) (Nat.le_refl _) mem  _ hq1) (Nat.lt_of_lt_of_le (by decide) hd) (Nat.le_of_ble_eq_true rfl) ?_
  refine zk_istore_n (i := 1) dX11_tree_11 rfl (Nat.le_of_ble_eq_true rfl) rfl ?_
  refine zk_iload_n (i := 1) dX11_tree_12 rfl rfl ?_
  refine zk_if_ge 18 dX11_tree_13 rfl (fun c8 => ?_) (fun c8 => ?_)
  · have h := zk_it _ h c8
    refine zk_aload_n (i := 0) dX11_tree_18 rfl rfl ?_
    refine zk_getR 0 11 10 dX11_tree_19 zf_X11_82 (Nat.le_of_ble_eq_true rfl) rfl rfl ?_
    refine zk_astore_n (i := 2) dX11_tree_22 rfl (Nat.le_of_ble_eq_true rfl) rfl ?_
    obtain ⟨m2, em2, h⟩ := zk_lt h
    refine zk_weak (lv' := [some (.ref 0), some (.int q1.1), some (.ref 46)]) (zk_leS (zk_leS (zk_leS zk_leE))) (zk_swap36 em2 ?_)
    refine zk_aload_n (i := 0) dX11_tree_36 rfl rfl ?_
    refine zk_getR 0 11 0 dX11_tree_37 zf_X11_10 (Nat.le_of_ble_eq_true rfl) rfl rfl ?_
    refine zk_iconst dX11_tree_40 zki_0 ?_
    obtain ⟨m3, em3, h⟩ := zk_lt h
    refine zk_putI' 1 9 1 dX11_tree_41 zp_X11_101 (Nat.le_of_ble_eq_true rfl) rfl rfl em3 ?_
    refine zk_aload_n (i := 0) dX11_tree_44 rfl rfl ?_
    refine zk_getR 0 11 1 dX11_tree_45 zf_X11_19 (Nat.le_of_ble_eq_true rfl) rfl rfl ?_
    refine zk_aload_n (i := 0) dX11_tree_48 rfl rfl ?_
    refine zk_getR 0 11 10 dX11_tree_49 zf_X11_82 (Nat.le_of_ble_eq_true rfl) rfl rfl ?_
    obtain ⟨q4, hq4, h⟩ := zk_ob h
    refine zk_callVv zY_X8_begin 4 8 [_] dX11_tree_52 zl_X8_begin zc_X11_109 zk_ok8 (Nat.le_of_ble_eq_true rfl) rfl (fScene_begin_ok (d := 1) (Nat.le_refl _) m3  _ hq4) (Nat.lt_of_lt_of_le (by decide) hd) (Nat.le_of_ble_eq_true rfl) ?_
    refine zk_aload_n (i := 0) dX11_tree_55 rfl rfl ?_
    refine zk_getR 0 11 3 dX11_tree_56 zf_X11_33 (Nat.le_of_ble_eq_true rfl) rfl rfl ?_
    obtain ⟨q5, hq5, h⟩ := zk_lt h
    refine zk_callVv zY_X5_lose 9 5 [] dX11_tree_59 zl_X5_lose zc_X11_113 zk_ok5 (Nat.le_of_ble_eq_true rfl) rfl (fPast_lose_ok (d := 0) (Nat.le_refl _) q4  _ hq5) (Nat.lt_of_lt_of_le (by decide) hd) (Nat.le_of_ble_eq_true rfl) ?_
    refine zk_aload_n (i := 0) dX11_tree_62 rfl rfl ?_
    refine zk_getR 0 11 4 dX11_tree_63 zf_X11_40 (Nat.le_of_ble_eq_true rfl) rfl rfl ?_
    obtain ⟨q6, hq6, h⟩ := zk_ob h
    refine zk_callVv zY_X0_lose 21 0 [] dX11_tree_66 zl_X0_lose zc_X11_116 zk_ok0 (Nat.le_of_ble_eq_true rfl) rfl (fAlbum_lose_ok (d := 0) (Nat.le_refl _) q5  _ hq6) (Nat.lt_of_lt_of_le (by decide) hd) (Nat.le_of_ble_eq_true rfl) ?_
    refine zk_aload_n (i := 0) dX11_tree_69 rfl rfl ?_
    refine zk_getR 0 11 5 dX11_tree_70 zf_X11_47 (Nat.le_of_ble_eq_true rfl) rfl rfl ?_
    refine zk_iconst dX11_tree_73 zki_0 ?_
    obtain ⟨m7, em7, h⟩ := zk_lt h
    refine zk_putI' 26 7 0 dX11_tree_74 zp_X11_117 (Nat.le_of_ble_eq_true rfl) rfl rfl em7 ?_
    refine zk_iload_n (i := 1) dX11_tree_77 rfl rfl ?_
    exact zk_ireturn dX11_tree_78 rfl (zk_rIw (Option.some.inj h))
  · have h := zk_if _ h c8
    refine zk_iload_n (i := 1) dX11_tree_16 rfl rfl ?_
    refine zk_Tl ?_
    exact zk_ireturn dX11_tree_17 rfl (zk_rIw (Option.some.inj h))
