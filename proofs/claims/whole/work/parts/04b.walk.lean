set_option maxRecDepth 100000 in
set_option maxHeartbeats 4000000 in
theorem fBurden_allHold_ok {d : Nat} (hd : 3 ≤ d) (mem : zkM) (z : Bool) (h : fBurden_allHold mem = some z) : zk_X zSX d zY_X1_allHold [.ref 6, .ref 46, .ref 4] mem (some (.int (zk_b z)), mem) := by
  unfold fBurden_allHold at h
  refine zk_meet (n := 0) (lv := [some (.ref 6), some (.ref 46), some (.ref 4)]) zpn_X1 rfl (Nat.le_of_ble_eq_true rfl) ?_
  refine zk_aload_n (i := 0) dX1_allHold_0 rfl rfl ?_
  refine zk_aload_n (i := 1) dX1_allHold_1 rfl rfl ?_
  obtain ⟨q1, hq1, h⟩ := zk_ob h
  refine zk_callVi zY_X1_firstTooLaden 6 1 [_] dX1_allHold_2 zl_X1_firstTooLaden zc_X1_56 zk_ok1 (Nat.le_of_ble_eq_true rfl) rfl (fBurden_firstTooLaden_ok (d := 0) (Nat.le_refl _) mem  _ hq1) (Nat.lt_of_lt_of_le (by decide) hd) (Nat.le_of_ble_eq_true rfl) ?_
  refine zk_bipush dX1_allHold_5 zkb_m9 ?_
  refine zk_icmp_ne 35 dX1_allHold_7 rfl (fun c6 => ?_) (fun c6 => ?_)
  · have h := zk_if _ h c6
    refine zk_iconst dX1_allHold_35 zki_0 ?_
    exact zk_zreturn dX1_allHold_36 rfl rfl (zk_rZ (Option.some.inj h))
  · have h := zk_it _ h c6
    refine zk_aload_n (i := 0) dX1_allHold_10 rfl rfl ?_
    refine zk_aload_n (i := 1) dX1_allHold_11 rfl rfl ?_
    obtain ⟨q2, hq2, h⟩ := zk_ob h
    refine zk_callVi zY_X1_firstTooBent 6 1 [_] dX1_allHold_12 zl_X1_firstTooBent zc_X1_60 zk_ok1 (Nat.le_of_ble_eq_true rfl) rfl (fBurden_firstTooBent_ok (d := 0) (Nat.le_refl _) mem  _ hq2) (Nat.lt_of_lt_of_le (by decide) hd) (Nat.le_of_ble_eq_true rfl) ?_
    refine zk_bipush dX1_allHold_15 zkb_m9 ?_
    refine zk_icmp_ne 35 dX1_allHold_17 rfl (fun c5 => ?_) (fun c5 => ?_)
    · have h := zk_if _ h c5
      refine zk_iconst dX1_allHold_35 zki_0 ?_
      exact zk_zreturn dX1_allHold_36 rfl rfl (zk_rZ (Option.some.inj h))
    · have h := zk_it _ h c5
      refine zk_aload_n (i := 0) dX1_allHold_20 rfl rfl ?_
      refine zk_aload_n (i := 1) dX1_allHold_21 rfl rfl ?_
      refine zk_aload_n (i := 2) dX1_allHold_22 rfl rfl ?_
      obtain ⟨q3, hq3, h⟩ := zk_ob h
      refine zk_callVi zY_X1_firstUnheld 6 1 [_, _] dX1_allHold_23 zl_X1_firstUnheld zc_X1_63 zk_ok1 (Nat.le_of_ble_eq_true rfl) rfl (fBurden_firstUnheld_ok (d := 2) (Nat.le_refl _) mem  _ hq3) (Nat.lt_of_lt_of_le (by decide) hd) (Nat.le_of_ble_eq_true rfl) ?_
      refine zk_bipush dX1_allHold_26 zkb_m9 ?_
      refine zk_icmp_ne 35 dX1_allHold_28 rfl (fun c4 => ?_) (fun c4 => ?_)
      · have h := zk_if _ h c4
        refine zk_iconst dX1_allHold_35 zki_0 ?_
        exact zk_zreturn dX1_allHold_36 rfl rfl (zk_rZ (Option.some.inj h))
      · have h := zk_it _ h c4
        refine zk_iconst dX1_allHold_31 zki_1 ?_
        refine zk_goto 36 dX1_allHold_32 rfl ?_
        exact zk_zreturn dX1_allHold_36 rfl rfl (zk_rZ (Option.some.inj h))
set_option maxRecDepth 100000 in
set_option maxHeartbeats 4000000 in
theorem fScene_gales_ok {d : Nat} (hd : 0 ≤ d) (mem : zkM) (z : Int32) (h : fScene_gales mem = z) : zk_X zSX d zY_X8_gales [.ref 4] mem (some (.int z), mem) := by
  unfold fScene_gales at h
  refine zk_meet (n := 0) (lv := [some (.ref 4)]) zpn_X8 rfl (Nat.le_of_ble_eq_true rfl) ?_
  refine zk_aload_n (i := 0) dX8_gales_0 rfl rfl ?_
  refine zk_getR 4 8 0 dX8_gales_1 zf_X8_11 (Nat.le_of_ble_eq_true rfl) rfl rfl ?_
  refine zk_bipush dX8_gales_4 zkb_41 ?_
  refine zk_iaload 5 42 dX8_gales_6 (Nat.le_of_ble_eq_true rfl) rfl (zk_inb_in (by decide)) ?_
  exact zk_ireturn dX8_gales_7 rfl (zk_rI h)
set_option maxRecDepth 100000 in
set_option maxHeartbeats 4000000 in
theorem fTp_now_ok {d : Nat} (hd : 4 ≤ d) (mem : zkM) (a1 : Int32) (z : Int32 × zkM) (h : fTp_now mem a1 = some z) : zk_X zSX d zY_X11_now [.ref 0, .int a1] mem (some (.int z.1), z.2) := by
  unfold fTp_now at h
  refine zk_meet (n := 0) (lv := [some (.ref 0), some (.int a1)]) zpn_X11 rfl (Nat.le_of_ble_eq_true rfl) ?_
  refine zk_iload_n (i := 1) dX11_now_0 rfl rfl ?_
  refine zk_iconst dX11_now_1 zki_0 ?_
  refine zk_iconst dX11_now_2 zki_5 ?_
  refine zk_callSi zY_X11_within [_, _, _] dX11_now_3 zl_X11_within zc_X11_93 (fTp_within_ok (d := 0) (Nat.le_refl _) mem _ _ _ _ rfl) (Nat.lt_of_lt_of_le (by decide) hd) (Nat.le_of_ble_eq_true rfl) ?_
  refine zk_if_ne 11 dX11_now_6 rfl (fun c12 => ?_) (fun c12 => ?_)
  · have h := zk_if _ h c12
    refine zk_aload_n (i := 0) dX11_now_11 rfl rfl ?_
    refine zk_getR 0 11 2 dX11_now_12 zf_X11_26 (Nat.le_of_ble_eq_true rfl) rfl rfl ?_
    refine zk_aload_n (i := 0) dX11_now_15 rfl rfl ?_
    refine zk_getR 0 11 10 dX11_now_16 zf_X11_82 (Nat.le_of_ble_eq_true rfl) rfl rfl ?_
    refine zk_aload_n (i := 0) dX11_now_19 rfl rfl ?_
    refine zk_getR 0 11 1 dX11_now_20 zf_X11_19 (Nat.le_of_ble_eq_true rfl) rfl rfl ?_
    obtain ⟨q1, hq1, h⟩ := zk_ob h
    refine zk_callVv zY_X1_weigh 6 1 [_, _] dX11_now_23 zl_X1_weigh zc_X11_133 zk_ok1 (Nat.le_of_ble_eq_true rfl) rfl (fBurden_weigh_ok (d := 1) (Nat.le_refl _) mem  _ hq1) (Nat.lt_of_lt_of_le (by decide) hd) (Nat.le_of_ble_eq_true rfl) ?_
    refine zk_iload_n (i := 1) dX11_now_26 rfl rfl ?_
    rcases Decidable.em (a1 = (0 : Int32)) with c2 | c2
    · have h := zk_it _ h c2
      refine zk_tin (off := 33) 60 dX11_now_27 c2 (by decide) (by decide) (by decide) rfl ?_
      refine zk_aload_n (i := 0) dX11_now_60 rfl rfl ?_
      refine zk_getR 0 11 2 dX11_now_61 zf_X11_26 (Nat.le_of_ble_eq_true rfl) rfl rfl ?_
      refine zk_aload_n (i := 0) dX11_now_64 rfl rfl ?_
      refine zk_getR 0 11 10 dX11_now_65 zf_X11_82 (Nat.le_of_ble_eq_true rfl) rfl rfl ?_
      refine zk_aload_n (i := 0) dX11_now_68 rfl rfl ?_
      refine zk_getR 0 11 1 dX11_now_69 zf_X11_19 (Nat.le_of_ble_eq_true rfl) rfl rfl ?_
      obtain ⟨q3, hq3, h⟩ := zk_ob h
      refine zk_callVi zY_X1_allHold 6 1 [_, _] dX11_now_72 zl_X1_allHold zc_X11_178 zk_ok1 (Nat.le_of_ble_eq_true rfl) rfl (fBurden_allHold_ok (d := 3) (Nat.le_refl _) q1  _ hq3) (Nat.lt_of_lt_of_le (by decide) hd) (Nat.le_of_ble_eq_true rfl) ?_
      refine zk_if_eq 82 dX11_now_75 rfl (fun c4 => ?_) (fun c4 => ?_)
      · have h := zk_it _ h c4
        refine zk_iconst dX11_now_82 zki_0 ?_
        exact zk_ireturn dX11_now_83 rfl (zk_rIw (Option.some.inj h))
      · have h := zk_if _ h c4
        refine zk_iconst dX11_now_78 zki_1 ?_
        refine zk_goto 83 dX11_now_79 rfl ?_
        exact zk_ireturn dX11_now_83 rfl (zk_rIw (Option.some.inj h))
    · have h := zk_if _ h c2
      rcases Decidable.em (a1 = (1 : Int32)) with c5 | c5
      · have h := zk_it _ h c5
        refine zk_tin (off := 57) 84 dX11_now_27 c5 (by decide) (by decide) (by decide) rfl ?_
        refine zk_aload_n (i := 0) dX11_now_84 rfl rfl ?_
        refine zk_getR 0 11 2 dX11_now_85 zf_X11_26 (Nat.le_of_ble_eq_true rfl) rfl rfl ?_
        refine zk_aload_n (i := 0) dX11_now_88 rfl rfl ?_
        refine zk_getR 0 11 10 dX11_now_89 zf_X11_82 (Nat.le_of_ble_eq_true rfl) rfl rfl ?_
        obtain ⟨q6, hq6, h⟩ := zk_ob h
        refine zk_callVi zY_X1_firstTooLaden 6 1 [_] dX11_now_92 zl_X1_firstTooLaden zc_X11_182 zk_ok1 (Nat.le_of_ble_eq_true rfl) rfl (fBurden_firstTooLaden_ok (d := 0) (Nat.le_refl _) q1  _ hq6) (Nat.lt_of_lt_of_le (by decide) hd) (Nat.le_of_ble_eq_true rfl) ?_
        exact zk_ireturn dX11_now_95 rfl (zk_rIw (Option.some.inj h))
      · have h := zk_if _ h c5
        rcases Decidable.em (a1 = (2 : Int32)) with c7 | c7
        · have h := zk_it _ h c7
          refine zk_tin (off := 69) 96 dX11_now_27 c7 (by decide) (by decide) (by decide) rfl ?_
          refine zk_aload_n (i := 0) dX11_now_96 rfl rfl ?_
          refine zk_getR 0 11 2 dX11_now_97 zf_X11_26 (Nat.le_of_ble_eq_true rfl) rfl rfl ?_
          refine zk_aload_n (i := 0) dX11_now_100 rfl rfl ?_
          refine zk_getR 0 11 10 dX11_now_101 zf_X11_82 (Nat.le_of_ble_eq_true rfl) rfl rfl ?_
          obtain ⟨q8, hq8, h⟩ := zk_ob h
          refine zk_callVi zY_X1_firstTooBent 6 1 [_] dX11_now_104 zl_X1_firstTooBent zc_X11_185 zk_ok1 (Nat.le_of_ble_eq_true rfl) rfl (fBurden_firstTooBent_ok (d := 0) (Nat.le_refl _) q1  _ hq8) (Nat.lt_of_lt_of_le (by decide) hd) (Nat.le_of_ble_eq_true rfl) ?_
          exact zk_ireturn dX11_now_107 rfl (zk_rIw (Option.some.inj h))
        · have h := zk_if _ h c7
          rcases Decidable.em (a1 = (3 : Int32)) with c9 | c9
          · have h := zk_it _ h c9
            refine zk_tin (off := 81) 108 dX11_now_27 c9 (by decide) (by decide) (by decide) rfl ?_
            refine zk_aload_n (i := 0) dX11_now_108 rfl rfl ?_
            refine zk_getR 0 11 2 dX11_now_109 zf_X11_26 (Nat.le_of_ble_eq_true rfl) rfl rfl ?_
            refine zk_aload_n (i := 0) dX11_now_112 rfl rfl ?_
            refine zk_getR 0 11 10 dX11_now_113 zf_X11_82 (Nat.le_of_ble_eq_true rfl) rfl rfl ?_
            refine zk_aload_n (i := 0) dX11_now_116 rfl rfl ?_
            refine zk_getR 0 11 1 dX11_now_117 zf_X11_19 (Nat.le_of_ble_eq_true rfl) rfl rfl ?_
            obtain ⟨q10, hq10, h⟩ := zk_ob h
            refine zk_callVi zY_X1_firstUnheld 6 1 [_, _] dX11_now_120 zl_X1_firstUnheld zc_X11_188 zk_ok1 (Nat.le_of_ble_eq_true rfl) rfl (fBurden_firstUnheld_ok (d := 2) (Nat.le_refl _) q1  _ hq10) (Nat.lt_of_lt_of_le (by decide) hd) (Nat.le_of_ble_eq_true rfl) ?_
            exact zk_ireturn dX11_now_123 rfl (zk_rIw (Option.some.inj h))
          · have h := zk_if _ h c9
            rcases Decidable.em (a1 = (4 : Int32)) with c11 | c11
            · have h := zk_it _ h c11
              refine zk_tin (off := 97) 124 dX11_now_27 c11 (by decide) (by decide) (by decide) rfl ?_
              refine zk_aload_n (i := 0) dX11_now_124 rfl rfl ?_
              refine zk_getR 0 11 1 dX11_now_125 zf_X11_19 (Nat.le_of_ble_eq_true rfl) rfl rfl ?_
              refine zk_callVi zY_X8_gales 4 8 [] dX11_now_128 zl_X8_gales zc_X11_192 zk_ok8 (Nat.le_of_ble_eq_true rfl) rfl (fScene_gales_ok (d := 0) (Nat.le_refl _) q1  _ rfl) (Nat.lt_of_lt_of_le (by decide) hd) (Nat.le_of_ble_eq_true rfl) ?_
              exact zk_ireturn dX11_now_131 rfl (zk_rIw (Option.some.inj h))
            · have h := zk_if _ h c11
              have hout : (a1).toInt < 0 ∨ 4 < (a1).toInt := by
                have := lv_neT c2 (a := 0) (by decide)
                have := lv_neT c5 (a := 1) (by decide)
                have := lv_neT c7 (a := 2) (by decide)
                have := lv_neT c9 (a := 3) (by decide)
                have := lv_neT c11 (a := 4) (by decide)
                omega
              refine zk_tout 132 dX11_now_27 hout rfl ?_
              refine zk_aload_n (i := 0) dX11_now_132 rfl rfl ?_
              refine zk_getR 0 11 3 dX11_now_133 zf_X11_33 (Nat.le_of_ble_eq_true rfl) rfl rfl ?_
              refine zk_getI 9 5 1 dX11_now_136 zf_X11_196 (Nat.le_of_ble_eq_true rfl) rfl rfl ?_
              exact zk_ireturn dX11_now_139 rfl (zk_rIw (Option.some.inj h))
  · have h := zk_it _ h c12
    refine zk_iconst dX11_now_9 zki_m1 ?_
    exact zk_ireturn dX11_now_10 rfl (zk_rIw (Option.some.inj h))
set_option maxRecDepth 100000 in
set_option maxHeartbeats 4000000 in
theorem fScene_copyTo_q_ok {d : Nat} (hd : 0 ≤ d) (mem : zkM) (q : Nat) (hq : q < zSX.1 ∧ zSX.2.1 q = some (.inl (42, 0))) (z : zkM) (h : fScene_copyTo_q mem q = z) : zk_X zSX d zY_X8_copyTo [.ref 4, .ref q] mem (none, z) := by
  unfold fScene_copyTo_q at h
  refine zk_meet (n := 0) (lv := [some (.ref 4), some (.ref q)]) zpn_X8 rfl (Nat.le_of_ble_eq_true rfl) ?_
  refine zk_aload_n (i := 1) dX8_copyTo_0 rfl rfl ?_
  refine zk_alen q 42 dX8_copyTo_1 hq.1 hq.2 (v := 42) (by decide) ?_
  refine zk_bipush dX8_copyTo_2 zkb_42 ?_
  refine zk_icmp_lt 19 dX8_copyTo_4 rfl (fun c => absurd c (by decide)) (fun _ => ?_)
  refine zk_aload_n (i := 0) dX8_copyTo_7 rfl rfl ?_
  refine zk_getR 4 8 0 dX8_copyTo_8 zf_X8_11 (Nat.le_of_ble_eq_true rfl) rfl rfl ?_
  refine zk_iconst dX8_copyTo_11 zki_0 ?_
  refine zk_aload_n (i := 1) dX8_copyTo_12 rfl rfl ?_
  refine zk_iconst dX8_copyTo_13 zki_0 ?_
  refine zk_bipush dX8_copyTo_14 zkb_42 ?_
  obtain ⟨m1, em1, h⟩ := zk_lt h
  refine zk_copyI 5 q 42 42 42 dX8_copyTo_16 zc_X8_24 zac (Nat.le_of_ble_eq_true rfl) hq.1 rfl hq.2 (by decide) (by decide) (by decide) (by decide) (Nat.le_of_ble_eq_true rfl) em1 ?_
  exact zk_vreturn dX8_copyTo_19 rfl (zk_rVw h)
set_option maxRecDepth 100000 in
set_option maxHeartbeats 4000000 in
theorem fPast_remember_ok {d : Nat} (hd : 1 ≤ d) (mem : zkM) (z : zkM) (h : fPast_remember mem = some z) : zk_X zSX d zY_X5_remember [.ref 9, .ref 4] mem (none, z) := by
  unfold fPast_remember at h
  refine zk_meet (n := 0) (lv := [some (.ref 9), some (.ref 4)]) zpn_X5 rfl (Nat.le_of_ble_eq_true rfl) ?_
  refine zk_aload_n (i := 1) dX5_remember_0 rfl rfl ?_
  refine zk_aload_n (i := 0) dX5_remember_1 rfl rfl ?_
  refine zk_getR 9 5 0 dX5_remember_2 zf_X5_13 (Nat.le_of_ble_eq_true rfl) rfl rfl ?_
  refine zk_aload_n (i := 0) dX5_remember_5 rfl rfl ?_
  refine zk_getI 9 5 2 dX5_remember_6 zf_X5_22 (Nat.le_of_ble_eq_true rfl) rfl rfl ?_
  obtain ⟨b1, h⟩ := zk_gd h
  refine zk_aaload 10 10 dX5_remember_9 (Nat.le_of_ble_eq_true rfl) rfl (zk_inb_in b1) ?_
  obtain ⟨q2, hq2, h⟩ := zk_lt h
  refine zk_callVv zY_X8_copyTo 4 8 [_] dX5_remember_10 zl_X8_copyTo zc_X5_25 zk_ok8 (Nat.le_of_ble_eq_true rfl) rfl (fScene_copyTo_q_ok (d := 0) (Nat.le_refl _) mem _ (zq_10 b1) _ hq2) (Nat.lt_of_lt_of_le (by decide) hd) (Nat.le_of_ble_eq_true rfl) ?_
  refine zk_aload_n (i := 0) dX5_remember_13 rfl rfl ?_
  refine zk_aload_n (i := 0) dX5_remember_14 rfl rfl ?_
  refine zk_getI 9 5 2 dX5_remember_15 zf_X5_22 (Nat.le_of_ble_eq_true rfl) rfl rfl ?_
  refine zk_iconst dX5_remember_18 zki_1 ?_
  refine zk_iadd dX5_remember_19 ?_
  refine zk_bipush dX5_remember_20 zkb_10 ?_
  obtain ⟨q3, hq3, h⟩ := zk_lt h
  have Jq3 : zk_J zSX d zY_X5_remember (zk_R zSX (none, z)) 35 [some (.ref 9), none] [.int q3, .ref 9] q2 := by
    obtain ⟨m5, em5, h⟩ := zk_lt h
    refine zk_putI' 9 5 2 dX5_remember_35 zp_X5_22 (Nat.le_of_ble_eq_true rfl) rfl rfl em5 ?_
    refine zk_aload_n (i := 0) dX5_remember_38 rfl rfl ?_
    refine zk_aload_n (i := 0) dX5_remember_39 rfl rfl ?_
    refine zk_getI 9 5 1 dX5_remember_40 zf_X5_18 (Nat.le_of_ble_eq_true rfl) rfl rfl ?_
    refine zk_iconst dX5_remember_43 zki_1 ?_
    refine zk_iadd dX5_remember_44 ?_
    refine zk_bipush dX5_remember_45 zkb_10 ?_
    refine zk_mmin dX5_remember_47 zc_X5_29 zm_min (Nat.le_of_ble_eq_true rfl) ?_
    obtain ⟨m6, em6, h⟩ := zk_lt h
    refine zk_putI' 9 5 1 dX5_remember_50 zp_X5_18 (Nat.le_of_ble_eq_true rfl) rfl rfl em6 ?_
    exact zk_vreturn dX5_remember_53 rfl (zk_rVw (Option.some.inj h))
  have h := hq3
  clear hq3
  refine zk_icmp_ge 34 dX5_remember_22 rfl (fun c4 => ?_) (fun c4 => ?_)
  · have h := zk_it _ h c4
    refine zk_iconst dX5_remember_34 zki_0 ?_
    subst h
    exact zk_weak (zk_leS (zk_leN zk_leE)) Jq3
  · have h := zk_if _ h c4
    refine zk_aload_n (i := 0) dX5_remember_25 rfl rfl ?_
    refine zk_getI 9 5 2 dX5_remember_26 zf_X5_22 (Nat.le_of_ble_eq_true rfl) rfl rfl ?_
    refine zk_iconst dX5_remember_29 zki_1 ?_
    refine zk_iadd dX5_remember_30 ?_
    refine zk_goto 35 dX5_remember_31 rfl ?_
    subst h
    exact zk_weak (zk_leS (zk_leN zk_leE)) Jq3
set_option maxRecDepth 100000 in
set_option maxHeartbeats 4000000 in
theorem fScene_put_ok {d : Nat} (hd : 0 ≤ d) (mem : zkM) (a1 : Int32) (a2 : Int32) (z : zkM) (h : fScene_put mem a1 a2 = some z) : zk_X zSX d zY_X8_put [.ref 4, .int a1, .int a2] mem (none, z) := by
  unfold fScene_put at h
  refine zk_meet (n := 0) (lv := [some (.ref 4), some (.int a1), some (.int a2)]) zpn_X8 rfl (Nat.le_of_ble_eq_true rfl) ?_
  refine zk_aload_n (i := 0) dX8_put_0 rfl rfl ?_
  refine zk_getR 4 8 0 dX8_put_1 zf_X8_11 (Nat.le_of_ble_eq_true rfl) rfl rfl ?_
  refine zk_iload_n (i := 1) dX8_put_4 rfl rfl ?_
  refine zk_iload_n (i := 2) dX8_put_5 rfl rfl ?_
  obtain ⟨b1, h⟩ := zk_gd h
  obtain ⟨m2, em2, h⟩ := zk_lt h
  refine zk_iastore' 5 42 dX8_put_6 (Nat.le_of_ble_eq_true rfl) rfl (zk_inb_in b1) em2 ?_
  exact zk_vreturn dX8_put_7 rfl (zk_rVw (Option.some.inj h))
set_option maxRecDepth 100000 in
set_option maxHeartbeats 4000000 in
theorem fTp_stands_ok {d : Nat} (hd : 2 ≤ d) (mem : zkM) (a1 : Int32) (a2 : Int32) (z : Int32 × zkM) (h : fTp_stands mem a1 a2 = some z) : zk_X zSX d zY_X11_stands [.ref 0, .int a1, .int a2] mem (some (.int z.1), z.2) := by
  unfold fTp_stands at h
  refine zk_meet (n := 1) (lv := [some (.ref 0), some (.int a1), some (.int a2), none]) zpn_X11 rfl (Nat.le_of_ble_eq_true rfl) ?_
  refine zk_aload_n (i := 0) dX11_stands_0 rfl rfl ?_
  refine zk_iload_n (i := 1) dX11_stands_1 rfl rfl ?_
  refine zk_callVi zY_X11_isChild 0 11 [_] dX11_stands_2 zl_X11_isChild zc_X11_166 zk_ok11 (Nat.le_of_ble_eq_true rfl) rfl (fTp_isChild_ok (d := 1) (Nat.le_refl _) mem _ _ rfl) (Nat.lt_of_lt_of_le (by decide) hd) (Nat.le_of_ble_eq_true rfl) ?_
  refine zk_if_eq 22 dX11_stands_5 rfl (fun c9 => ?_) (fun c9 => ?_)
  · have h := zk_it _ h c9
    refine zk_iconst dX11_stands_22 zki_m1 ?_
    exact zk_ireturn dX11_stands_23 rfl (zk_rIw (Option.some.inj h))
  · have h := zk_if _ h c9
    refine zk_iload_n (i := 2) dX11_stands_8 rfl rfl ?_
    refine zk_bipush dX11_stands_9 zkb_m9 ?_
    refine zk_icmp_eq 24 dX11_stands_11 rfl (fun c8 => ?_) (fun c8 => ?_)
    · have h := zk_it _ h c8
      refine zk_aload_n (i := 0) dX11_stands_24 rfl rfl ?_
      refine zk_getR 0 11 3 dX11_stands_25 zf_X11_33 (Nat.le_of_ble_eq_true rfl) rfl rfl ?_
      refine zk_aload_n (i := 0) dX11_stands_28 rfl rfl ?_
      refine zk_getR 0 11 1 dX11_stands_29 zf_X11_19 (Nat.le_of_ble_eq_true rfl) rfl rfl ?_
      obtain ⟨q1, hq1, h⟩ := zk_ob h
      refine zk_callVv zY_X5_remember 9 5 [_] dX11_stands_32 zl_X5_remember zc_X11_199 zk_ok5 (Nat.le_of_ble_eq_true rfl) rfl (fPast_remember_ok (d := 1) (Nat.le_refl _) mem  _ hq1) (Nat.lt_of_lt_of_le (by decide) hd) (Nat.le_of_ble_eq_true rfl) ?_
      refine zk_aload_n (i := 0) dX11_stands_35 rfl rfl ?_
      refine zk_getR 0 11 1 dX11_stands_36 zf_X11_19 (Nat.le_of_ble_eq_true rfl) rfl rfl ?_
      refine zk_iload_n (i := 1) dX11_stands_39 rfl rfl ?_
      obtain ⟨q2, hq2, h⟩ := zk_ob h
      refine zk_callVi zY_X8_plankUnder 4 8 [_] dX11_stands_40 zl_X8_plankUnder zc_X11_175 zk_ok8 (Nat.le_of_ble_eq_true rfl) rfl (fScene_plankUnder_ok (d := 0) (Nat.le_refl _) q1 _ _ hq2) (Nat.lt_of_lt_of_le (by decide) hd) (Nat.le_of_ble_eq_true rfl) ?_
      refine zk_istore_n (i := 3) dX11_stands_43 rfl (Nat.le_of_ble_eq_true rfl) rfl ?_
      refine zk_aload_n (i := 0) dX11_stands_44 rfl rfl ?_
      refine zk_getR 0 11 1 dX11_stands_45 zf_X11_19 (Nat.le_of_ble_eq_true rfl) rfl rfl ?_
      refine zk_iload_n (i := 1) dX11_stands_48 rfl rfl ?_
      refine zk_iload_n (i := 2) dX11_stands_49 rfl rfl ?_
      obtain ⟨q3, hq3, h⟩ := zk_ob h
      refine zk_callVv zY_X8_put 4 8 [_, _] dX11_stands_50 zl_X8_put zc_X11_203 zk_ok8 (Nat.le_of_ble_eq_true rfl) rfl (fScene_put_ok (d := 0) (Nat.le_refl _) q1 _ _ _ hq3) (Nat.lt_of_lt_of_le (by decide) hd) (Nat.le_of_ble_eq_true rfl) ?_
      refine zk_iload_n (i := 3) dX11_stands_53 rfl rfl ?_
      exact zk_ireturn dX11_stands_54 rfl (zk_rIw (Option.some.inj h))
    · have h := zk_if _ h c8
      refine zk_aload_n (i := 0) dX11_stands_14 rfl rfl ?_
      refine zk_iload_n (i := 2) dX11_stands_15 rfl rfl ?_
      refine zk_callVi zY_X11_isPlank 0 11 [_] dX11_stands_16 zl_X11_isPlank zc_X11_140 zk_ok11 (Nat.le_of_ble_eq_true rfl) rfl (fTp_isPlank_ok (d := 1) (Nat.le_refl _) mem _ _ rfl) (Nat.lt_of_lt_of_le (by decide) hd) (Nat.le_of_ble_eq_true rfl) ?_
      refine zk_if_ne 24 dX11_stands_19 rfl (fun c7 => ?_) (fun c7 => ?_)
      · have h := zk_if _ h c7
        refine zk_aload_n (i := 0) dX11_stands_24 rfl rfl ?_
        refine zk_getR 0 11 3 dX11_stands_25 zf_X11_33 (Nat.le_of_ble_eq_true rfl) rfl rfl ?_
        refine zk_aload_n (i := 0) dX11_stands_28 rfl rfl ?_
        refine zk_getR 0 11 1 dX11_stands_29 zf_X11_19 (Nat.le_of_ble_eq_true rfl) rfl rfl ?_
        obtain ⟨q4, hq4, h⟩ := zk_ob h
        refine zk_callVv zY_X5_remember 9 5 [_] dX11_stands_32 zl_X5_remember zc_X11_199 zk_ok5 (Nat.le_of_ble_eq_true rfl) rfl (fPast_remember_ok (d := 1) (Nat.le_refl _) mem  _ hq4) (Nat.lt_of_lt_of_le (by decide) hd) (Nat.le_of_ble_eq_true rfl) ?_
        refine zk_aload_n (i := 0) dX11_stands_35 rfl rfl ?_
        refine zk_getR 0 11 1 dX11_stands_36 zf_X11_19 (Nat.le_of_ble_eq_true rfl) rfl rfl ?_
        refine zk_iload_n (i := 1) dX11_stands_39 rfl rfl ?_
        obtain ⟨q5, hq5, h⟩ := zk_ob h
        refine zk_callVi zY_X8_plankUnder 4 8 [_] dX11_stands_40 zl_X8_plankUnder zc_X11_175 zk_ok8 (Nat.le_of_ble_eq_true rfl) rfl (fScene_plankUnder_ok (d := 0) (Nat.le_refl _) q4 _ _ hq5) (Nat.lt_of_lt_of_le (by decide) hd) (Nat.le_of_ble_eq_true rfl) ?_
        refine zk_istore_n (i := 3) dX11_stands_43 rfl (Nat.le_of_ble_eq_true rfl) rfl ?_
        refine zk_aload_n (i := 0) dX11_stands_44 rfl rfl ?_
        refine zk_getR 0 11 1 dX11_stands_45 zf_X11_19 (Nat.le_of_ble_eq_true rfl) rfl rfl ?_
        refine zk_iload_n (i := 1) dX11_stands_48 rfl rfl ?_
        refine zk_iload_n (i := 2) dX11_stands_49 rfl rfl ?_
        obtain ⟨q6, hq6, h⟩ := zk_ob h
        refine zk_callVv zY_X8_put 4 8 [_, _] dX11_stands_50 zl_X8_put zc_X11_203 zk_ok8 (Nat.le_of_ble_eq_true rfl) rfl (fScene_put_ok (d := 0) (Nat.le_refl _) q4 _ _ _ hq6) (Nat.lt_of_lt_of_le (by decide) hd) (Nat.le_of_ble_eq_true rfl) ?_
        refine zk_iload_n (i := 3) dX11_stands_53 rfl rfl ?_
        exact zk_ireturn dX11_stands_54 rfl (zk_rIw (Option.some.inj h))
      · have h := zk_it _ h c7
        refine zk_iconst dX11_stands_22 zki_m1 ?_
        exact zk_ireturn dX11_stands_23 rfl (zk_rIw (Option.some.inj h))
set_option maxRecDepth 100000 in
set_option maxHeartbeats 4000000 in
theorem fTp_isForce_ok {d : Nat} (hd : 1 ≤ d) (mem : zkM) (a0 : Int32) (z : Bool) (h : fTp_isForce a0 = z) : zk_X zSX d zY_X11_isForce [.int a0] mem (some (.int (zk_b z)), mem) := by
  unfold fTp_isForce at h
  refine zk_meet (n := 0) (lv := [some (.int a0)]) zpn_X11 rfl (Nat.le_of_ble_eq_true rfl) ?_
  refine zk_iload_n (i := 0) dX11_isForce_0 rfl rfl ?_
  refine zk_iconst dX11_isForce_1 zki_1 ?_
  refine zk_bipush dX11_isForce_2 zkb_9 ?_
  refine zk_callSi zY_X11_within [_, _, _] dX11_isForce_4 zl_X11_within zc_X11_93 (fTp_within_ok (d := 0) (Nat.le_refl _) mem _ _ _ _ rfl) (Nat.lt_of_lt_of_le (by decide) hd) (Nat.le_of_ble_eq_true rfl) ?_
  exact zk_zreturn dX11_isForce_7 rfl (zk_nb _) (zk_rZ h)
set_option maxRecDepth 100000 in
set_option maxHeartbeats 4000000 in
theorem fTree_ends_ok {d : Nat} (hd : 0 ≤ d) (mem : zkM) (z : Int32) (h : fTree_ends mem = z) : zk_X zSX d zY_X10_ends [.ref 46] mem (some (.int z), mem) := by
  unfold fTree_ends at h
  refine zk_meet (n := 0) (lv := [some (.ref 46)]) zpn_X10 rfl (Nat.le_of_ble_eq_true rfl) ?_
  refine zk_iconst dX10_ends_0 zki_2 ?_
  refine zk_aload_n (i := 0) dX10_ends_1 rfl rfl ?_
  refine zk_getI 46 10 1 dX10_ends_2 zf_X10_15 (Nat.le_of_ble_eq_true rfl) rfl rfl ?_
  refine zk_imul dX10_ends_5 ?_
  exact zk_ireturn dX10_ends_6 rfl (zk_rI h)
set_option maxRecDepth 100000 in
set_option maxHeartbeats 4000000 in
theorem fTree_swayAcross_ok {d : Nat} (hd : 0 ≤ d) (mem : zkM) (a1 : Int32) (z : Int32) (h : fTree_swayAcross mem a1 = some z) : zk_X zSX d zY_X10_swayAcross [.ref 46, .int a1] mem (some (.int z), mem) := by
  unfold fTree_swayAcross at h
  refine zk_meet (n := 0) (lv := [some (.ref 46), some (.int a1)]) zpn_X10 rfl (Nat.le_of_ble_eq_true rfl) ?_
  refine zk_aload_n (i := 0) dX10_swayAcross_0 rfl rfl ?_
  refine zk_getR 46 10 5 dX10_swayAcross_1 zf_X10_28 (Nat.le_of_ble_eq_true rfl) rfl rfl ?_
  refine zk_aload_n (i := 0) dX10_swayAcross_4 rfl rfl ?_
  refine zk_getR 46 10 7 dX10_swayAcross_5 zf_X10_34 (Nat.le_of_ble_eq_true rfl) rfl rfl ?_
  refine zk_iconst dX10_swayAcross_8 zki_2 ?_
  refine zk_iload_n (i := 1) dX10_swayAcross_9 rfl rfl ?_
  refine zk_imul dX10_swayAcross_10 ?_
  obtain ⟨b1, h⟩ := zk_gd h
  refine zk_iaload 51 12 dX10_swayAcross_11 (Nat.le_of_ble_eq_true rfl) rfl (zk_inb_in b1) ?_
  obtain ⟨b2, h⟩ := zk_gd h
  refine zk_iaload 49 8 dX10_swayAcross_12 (Nat.le_of_ble_eq_true rfl) rfl (zk_inb_in b2) ?_
  refine zk_aload_n (i := 0) dX10_swayAcross_13 rfl rfl ?_
  refine zk_getR 46 10 5 dX10_swayAcross_14 zf_X10_28 (Nat.le_of_ble_eq_true rfl) rfl rfl ?_
  refine zk_aload_n (i := 0) dX10_swayAcross_17 rfl rfl ?_
  refine zk_getR 46 10 7 dX10_swayAcross_18 zf_X10_34 (Nat.le_of_ble_eq_true rfl) rfl rfl ?_
  refine zk_iconst dX10_swayAcross_21 zki_2 ?_
  refine zk_iload_n (i := 1) dX10_swayAcross_22 rfl rfl ?_
  refine zk_imul dX10_swayAcross_23 ?_
  refine zk_iconst dX10_swayAcross_24 zki_1 ?_
  refine zk_iadd dX10_swayAcross_25 ?_
  obtain ⟨b3, h⟩ := zk_gd h
  refine zk_iaload 51 12 dX10_swayAcross_26 (Nat.le_of_ble_eq_true rfl) rfl (zk_inb_in b3) ?_
  obtain ⟨b4, h⟩ := zk_gd h
  refine zk_iaload 49 8 dX10_swayAcross_27 (Nat.le_of_ble_eq_true rfl) rfl (zk_inb_in b4) ?_
  refine zk_isub dX10_swayAcross_28 ?_
  refine zk_mabs dX10_swayAcross_29 zc_X10_50 zm_abs (Nat.le_of_ble_eq_true rfl) ?_
  exact zk_ireturn dX10_swayAcross_32 rfl (zk_rI (Option.some.inj h))
set_option maxRecDepth 100000 in
set_option maxHeartbeats 4000000 in
theorem fTp_growth_ok {d : Nat} (hd : 0 ≤ d) (mem : zkM) (a0 : Int32) (a1 : Int32) (a2 : Int32) (z : Int32) (h : fTp_growth a0 a1 a2 = z) : zk_X zSX d zY_X11_growth [.int a0, .int a1, .int a2] mem (some (.int z), mem) := by
  unfold fTp_growth at h
  refine zk_meet (n := 0) (lv := [some (.int a0), some (.int a1), some (.int a2)]) zpn_X11 rfl (Nat.le_of_ble_eq_true rfl) ?_
  refine zk_iload_n (i := 0) dX11_growth_0 rfl rfl ?_
  rcases Decidable.em (a0 = (1 : Int32)) with c1 | c1
  · have h := zk_it _ h c1
    refine zk_tin (off := 27) 28 dX11_growth_1 c1 (by decide) (by decide) (by decide) rfl ?_
    refine zk_iload_n (i := 1) dX11_growth_28 rfl rfl ?_
    refine zk_iload_n (i := 2) dX11_growth_29 rfl rfl ?_
    refine zk_imul dX11_growth_30 ?_
    exact zk_ireturn dX11_growth_31 rfl (zk_rI h)
  · have h := zk_if _ h c1
    rcases Decidable.em (a0 = (2 : Int32)) with c2 | c2
    · have h := zk_it _ h c2
      refine zk_tin (off := 31) 32 dX11_growth_1 c2 (by decide) (by decide) (by decide) rfl ?_
      refine zk_iload_n (i := 1) dX11_growth_32 rfl rfl ?_
      refine zk_iload_n (i := 2) dX11_growth_33 rfl rfl ?_
      refine zk_imul dX11_growth_34 ?_
      refine zk_iconst dX11_growth_35 zki_2 ?_
      refine zk_idiv dX11_growth_36 (by decide) ?_
      exact zk_ireturn dX11_growth_37 rfl (zk_rI h)
    · have h := zk_if _ h c2
      rcases Decidable.em (a0 = (3 : Int32)) with c3 | c3
      · have h := zk_it _ h c3
        refine zk_tin (off := 37) 38 dX11_growth_1 c3 (by decide) (by decide) (by decide) rfl ?_
        refine zk_iload_n (i := 1) dX11_growth_38 rfl rfl ?_
        refine zk_iload_n (i := 2) dX11_growth_39 rfl rfl ?_
        refine zk_imul dX11_growth_40 ?_
        refine zk_iconst dX11_growth_41 zki_3 ?_
        refine zk_idiv dX11_growth_42 (by decide) ?_
        exact zk_ireturn dX11_growth_43 rfl (zk_rI h)
      · have h := zk_if _ h c3
        have hout : (a0).toInt < 1 ∨ 3 < (a0).toInt := by
          have := lv_neT c1 (a := 1) (by decide)
          have := lv_neT c2 (a := 2) (by decide)
          have := lv_neT c3 (a := 3) (by decide)
          omega
        refine zk_tout 44 dX11_growth_1 hout rfl ?_
        refine zk_iconst dX11_growth_44 zki_0 ?_
        exact zk_ireturn dX11_growth_45 rfl (zk_rI h)
set_option maxRecDepth 100000 in
set_option maxHeartbeats 4000000 in
theorem fTp_givesAt_ok {d : Nat} (hd : 0 ≤ d) (mem : zkM) (a0 : Int32) (z : Int32) (h : fTp_givesAt a0 = z) : zk_X zSX d zY_X11_givesAt [.int a0] mem (some (.int z), mem) := by
  unfold fTp_givesAt at h
  refine zk_meet (n := 0) (lv := [some (.int a0)]) zpn_X11 rfl (Nat.le_of_ble_eq_true rfl) ?_
  refine zk_iload_n (i := 0) dX11_givesAt_0 rfl rfl ?_
  rcases Decidable.em (a0 = (1 : Int32)) with c1 | c1
  · have h := zk_it _ h c1
    refine zk_tin (off := 27) 28 dX11_givesAt_1 c1 (by decide) (by decide) (by decide) rfl ?_
    refine zk_bipush dX11_givesAt_28 zkb_12 ?_
    exact zk_ireturn dX11_givesAt_30 rfl (zk_rI h)
  · have h := zk_if _ h c1
    rcases Decidable.em (a0 = (2 : Int32)) with c2 | c2
    · have h := zk_it _ h c2
      refine zk_tin (off := 30) 31 dX11_givesAt_1 c2 (by decide) (by decide) (by decide) rfl ?_
      refine zk_bipush dX11_givesAt_31 zkb_20 ?_
      exact zk_ireturn dX11_givesAt_33 rfl (zk_rI h)
    · have h := zk_if _ h c2
      rcases Decidable.em (a0 = (3 : Int32)) with c3 | c3
      · have h := zk_it _ h c3
        refine zk_tin (off := 33) 34 dX11_givesAt_1 c3 (by decide) (by decide) (by decide) rfl ?_
        refine zk_bipush dX11_givesAt_34 zkb_36 ?_
        exact zk_ireturn dX11_givesAt_36 rfl (zk_rI h)
      · have h := zk_if _ h c3
        have hout : (a0).toInt < 1 ∨ 3 < (a0).toInt := by
          have := lv_neT c1 (a := 1) (by decide)
          have := lv_neT c2 (a := 2) (by decide)
          have := lv_neT c3 (a := 3) (by decide)
          omega
        refine zk_tout 37 dX11_givesAt_1 hout rfl ?_
        refine zk_ldcw dX11_givesAt_37 zd_X11_357 ?_
        exact zk_ireturn dX11_givesAt_40 rfl (zk_rI h)
set_option maxRecDepth 100000 in
set_option maxHeartbeats 4000000 in
theorem fScene_shake_ok {d : Nat} (hd : 1 ≤ d) (mem : zkM) (a1 : Int32) (a2 : Int32) (a3 : Int32) (z : zkM) (h : fScene_shake mem a1 a2 a3 = some z) : zk_X zSX d zY_X8_shake [.ref 4, .int a1, .int a2, .int a3] mem (none, z) := by
  unfold fScene_shake at h
  refine zk_meet (n := 2) (lv := [some (.ref 4), some (.int a1), some (.int a2), some (.int a3), none, none]) zpn_X8 rfl (Nat.le_of_ble_eq_true rfl) ?_
  refine zk_aload_n (i := 0) dX8_shake_0 rfl rfl ?_
  refine zk_iload_n (i := 1) dX8_shake_1 rfl rfl ?_
  obtain ⟨q1, hq1, h⟩ := zk_ob h
  refine zk_callVi zY_X8_kindOf 4 8 [_] dX8_shake_2 zl_X8_kindOf zc_X8_46 zk_ok8 (Nat.le_of_ble_eq_true rfl) rfl (fScene_kindOf_ok (d := 0) (Nat.le_refl _) mem _ _ hq1) (Nat.lt_of_lt_of_le (by decide) hd) (Nat.le_of_ble_eq_true rfl) ?_
  refine zk_istore dX8_shake_5 (Nat.le_of_ble_eq_true rfl) rfl ?_
  refine zk_aload_n (i := 0) dX8_shake_7 rfl rfl ?_
  refine zk_getR 4 8 0 dX8_shake_8 zf_X8_11 (Nat.le_of_ble_eq_true rfl) rfl rfl ?_
  refine zk_bipush dX8_shake_11 zkb_17 ?_
  refine zk_iload_n (i := 1) dX8_shake_13 rfl rfl ?_
  refine zk_iadd dX8_shake_14 ?_
  refine zk_dup2 dX8_shake_15 rfl rfl ?_
  obtain ⟨b2, h⟩ := zk_gd h
  refine zk_iaload 5 42 dX8_shake_16 (Nat.le_of_ble_eq_true rfl) rfl (zk_inb_in b2) ?_
  refine zk_iload dX8_shake_17 rfl ?_
  refine zk_iload_n (i := 2) dX8_shake_19 rfl rfl ?_
  refine zk_iload_n (i := 3) dX8_shake_20 rfl rfl ?_
  refine zk_callNi zY_X11_growth [_, _, _] dX8_shake_21 zl_X11_growth zc_X8_49 (fTp_growth_ok (d := 0) (Nat.le_refl _) mem _ _ _ _ rfl) (Nat.lt_of_lt_of_le (by decide) hd) (Nat.le_of_ble_eq_true rfl) ?_
  refine zk_iadd dX8_shake_24 ?_
  obtain ⟨b3, h⟩ := zk_gd h
  obtain ⟨m4, em4, h⟩ := zk_lt h
  refine zk_iastore' 5 42 dX8_shake_25 (Nat.le_of_ble_eq_true rfl) rfl (zk_inb_in b3) em4 ?_
  refine zk_iload dX8_shake_26 rfl ?_
  obtain ⟨q5, hq5, h⟩ := zk_lt h
  have Jq5 : zk_J zSX d zY_X8_shake (zk_R zSX (none, z)) 42 [some (.ref 4), some (.int a1), none, none, some (.int q1), none] [.int (zk_b q5)] m4 := by
    refine zk_istore dX8_shake_42 (Nat.le_of_ble_eq_true rfl) rfl ?_
    refine zk_iload dX8_shake_44 rfl ?_
    refine zk_if_ne 62 dX8_shake_46 rfl (fun c14 => ?_) (fun c14 => ?_)
    · have h := zk_if _ h c14
      refine zk_aload_n (i := 0) dX8_shake_62 rfl rfl ?_
      refine zk_getR 4 8 0 dX8_shake_63 zf_X8_11 (Nat.le_of_ble_eq_true rfl) rfl rfl ?_
      refine zk_bipush dX8_shake_66 zkb_29 ?_
      refine zk_iload_n (i := 1) dX8_shake_68 rfl rfl ?_
      refine zk_iadd dX8_shake_69 ?_
      refine zk_iconst dX8_shake_70 zki_1 ?_
      obtain ⟨b8, h⟩ := zk_gd h
      obtain ⟨m9, em9, h⟩ := zk_lt h
      refine zk_iastore' 5 42 dX8_shake_71 (Nat.le_of_ble_eq_true rfl) rfl (zk_inb_in b8) em9 ?_
      exact zk_vreturn dX8_shake_72 rfl (zk_rVw (Option.some.inj h))
    · have h := zk_it _ h c14
      refine zk_aload_n (i := 0) dX8_shake_49 rfl rfl ?_
      refine zk_iload_n (i := 1) dX8_shake_50 rfl rfl ?_
      obtain ⟨q10, hq10, h⟩ := zk_ob h
      refine zk_callVi zY_X8_wearOf 4 8 [_] dX8_shake_51 zl_X8_wearOf zc_X8_53 zk_ok8 (Nat.le_of_ble_eq_true rfl) rfl (fScene_wearOf_ok (d := 0) (Nat.le_refl _) m4 _ _ hq10) (Nat.lt_of_lt_of_le (by decide) hd) (Nat.le_of_ble_eq_true rfl) ?_
      refine zk_iload dX8_shake_54 rfl ?_
      refine zk_callNi zY_X11_givesAt [_] dX8_shake_56 zl_X11_givesAt zc_X8_56 (fTp_givesAt_ok (d := 0) (Nat.le_refl _) m4 _ _ rfl) (Nat.lt_of_lt_of_le (by decide) hd) (Nat.le_of_ble_eq_true rfl) ?_
      refine zk_icmp_lt 72 dX8_shake_59 rfl (fun c13 => ?_) (fun c13 => ?_)
      · have h := zk_it _ h c13
        exact zk_vreturn dX8_shake_72 rfl (zk_rVw (Option.some.inj h))
      · have h := zk_if _ h c13
        refine zk_aload_n (i := 0) dX8_shake_62 rfl rfl ?_
        refine zk_getR 4 8 0 dX8_shake_63 zf_X8_11 (Nat.le_of_ble_eq_true rfl) rfl rfl ?_
        refine zk_bipush dX8_shake_66 zkb_29 ?_
        refine zk_iload_n (i := 1) dX8_shake_68 rfl rfl ?_
        refine zk_iadd dX8_shake_69 ?_
        refine zk_iconst dX8_shake_70 zki_1 ?_
        obtain ⟨b11, h⟩ := zk_gd h
        obtain ⟨m12, em12, h⟩ := zk_lt h
        refine zk_iastore' 5 42 dX8_shake_71 (Nat.le_of_ble_eq_true rfl) rfl (zk_inb_in b11) em12 ?_
        exact zk_vreturn dX8_shake_72 rfl (zk_rVw (Option.some.inj h))
  have h := hq5
  clear hq5
  refine zk_if_ne 41 dX8_shake_28 rfl (fun c7 => ?_) (fun c7 => ?_)
  · have h := zk_if _ h c7
    refine zk_iconst dX8_shake_41 zki_0 ?_
    subst h
    exact zk_weak (zk_leS (zk_leS (zk_leN (zk_leN (zk_leS (zk_leN zk_leE)))))) Jq5
  · have h := zk_it _ h c7
    refine zk_iload_n (i := 3) dX8_shake_31 rfl rfl ?_
    refine zk_bipush dX8_shake_32 zkb_7 ?_
    refine zk_icmp_lt 41 dX8_shake_34 rfl (fun c6 => ?_) (fun c6 => ?_)
    · have h := zk_it _ h c6
      refine zk_iconst dX8_shake_41 zki_0 ?_
      subst h
      exact zk_weak (zk_leS (zk_leS (zk_leN (zk_leN (zk_leS (zk_leN zk_leE)))))) Jq5
    · have h := zk_if _ h c6
      refine zk_iconst dX8_shake_37 zki_1 ?_
      refine zk_goto 42 dX8_shake_38 rfl ?_
      subst h
      exact zk_weak (zk_leS (zk_leS (zk_leN (zk_leN (zk_leS (zk_leN zk_leE)))))) Jq5
set_option maxRecDepth 100000 in
set_option maxHeartbeats 4000000 in
theorem fScene_blow_L2_ok {d : Nat} {Z : zkZ} (hd : 2 ≤ d)  : ∀ (n : Nat) (mem : zkM) (x2 : Int32) (x3 : Int32) (z : zkM), fScene_blow_L2 n mem x2 x3 = some z → zk_J zSX d zY_X8_blow Z 37 [some (.ref 4), none, none, none] [] z → zk_J zSX d zY_X8_blow Z 2 [some (.ref 4), some (.ref 46), some (.int x2), some (.int x3)] [] mem := by
  intro n
  induction n with
  | zero => intro mem x2 x3 z h; cases h
  | succ n ih =>
    intro mem x2 x3 z h he
    rw [fScene_blow_L2] at h
    refine zk_iload_n (i := 3) dX8_blow_2 rfl rfl ?_
    refine zk_aload_n (i := 1) dX8_blow_3 rfl rfl ?_
    refine zk_callVi zY_X10_ends 46 10 [] dX8_blow_4 zl_X10_ends zc_X8_30 zk_ok10 (Nat.le_of_ble_eq_true rfl) rfl (fTree_ends_ok (d := 0) (Nat.le_refl _) mem  _ rfl) (Nat.lt_of_lt_of_le (by decide) hd) (Nat.le_of_ble_eq_true rfl) ?_
    refine zk_icmp_ge 37 dX8_blow_7 rfl (fun c6 => ?_) (fun c6 => ?_)
    · have h := zk_it _ h c6
      cases h
      exact zk_weak (zk_leS (zk_leN (zk_leN (zk_leN zk_leE)))) he
    · have h := zk_if _ h c6
      refine zk_aload_n (i := 0) dX8_blow_10 rfl rfl ?_
      refine zk_iload_n (i := 3) dX8_blow_11 rfl rfl ?_
      obtain ⟨q1, hq1, h⟩ := zk_ob h
      refine zk_callVi zY_X8_isOut 4 8 [_] dX8_blow_12 zl_X8_isOut zc_X8_34 zk_ok8 (Nat.le_of_ble_eq_true rfl) rfl (fScene_isOut_ok (d := 0) (Nat.le_refl _) mem _ _ hq1) (Nat.lt_of_lt_of_le (by decide) hd) (Nat.le_of_ble_eq_true rfl) ?_
      obtain ⟨q2, hq2, h⟩ := zk_ob h
      have Jq2 : zk_J zSX d zY_X8_blow Z 31 [some (.ref 4), some (.ref 46), some (.int x2), some (.int x3)] [] q2 := by
        refine zk_iinc2 dX8_blow_31 rfl zki_1 (Nat.le_of_ble_eq_true rfl) rfl ?_
        refine zk_goto 2 dX8_blow_34 rfl ?_
        exact zk_weak (zk_leS (zk_leS (zk_leS (zk_leS zk_leE)))) (ih q2 x2 (x3 + (1 : Int32)) _ h he)
      have h := hq2
      clear hq2
      refine zk_if_ne 31 dX8_blow_15 rfl (fun c5 => ?_) (fun c5 => ?_)
      · have h := zk_if _ h c5
        cases h
        exact zk_weak (zk_leS (zk_leS (zk_leS (zk_leS zk_leE)))) Jq2
      · have h := zk_it _ h c5
        refine zk_aload_n (i := 0) dX8_blow_18 rfl rfl ?_
        refine zk_iload_n (i := 3) dX8_blow_19 rfl rfl ?_
        refine zk_aload_n (i := 1) dX8_blow_20 rfl rfl ?_
        refine zk_iload_n (i := 3) dX8_blow_21 rfl rfl ?_
        refine zk_iconst dX8_blow_22 zki_2 ?_
        refine zk_idiv dX8_blow_23 (by decide) ?_
        obtain ⟨q3, hq3, h⟩ := zk_ob h
        refine zk_callVi zY_X10_swayAcross 46 10 [_] dX8_blow_24 zl_X10_swayAcross zc_X8_38 zk_ok10 (Nat.le_of_ble_eq_true rfl) rfl (fTree_swayAcross_ok (d := 0) (Nat.le_refl _) mem _ _ hq3) (Nat.lt_of_lt_of_le (by decide) hd) (Nat.le_of_ble_eq_true rfl) ?_
        refine zk_iload_n (i := 2) dX8_blow_27 rfl rfl ?_
        obtain ⟨q4, hq4, h⟩ := zk_ob h
        refine zk_callVv zY_X8_shake 4 8 [_, _, _] dX8_blow_28 zl_X8_shake zc_X8_42 zk_ok8 (Nat.le_of_ble_eq_true rfl) rfl (fScene_shake_ok (d := 1) (Nat.le_refl _) mem _ _ _ _ hq4) (Nat.lt_of_lt_of_le (by decide) hd) (Nat.le_of_ble_eq_true rfl) ?_
        cases h
        exact zk_weak (zk_leS (zk_leS (zk_leS (zk_leS zk_leE)))) Jq2
set_option maxRecDepth 100000 in
set_option maxHeartbeats 4000000 in
theorem fScene_blow_ok {d : Nat} (hd : 2 ≤ d) (mem : zkM) (a2 : Int32) (z : zkM) (h : fScene_blow mem a2 = some z) : zk_X zSX d zY_X8_blow [.ref 4, .ref 46, .int a2] mem (none, z) := by
  unfold fScene_blow at h
  refine zk_meet (n := 1) (lv := [some (.ref 4), some (.ref 46), some (.int a2), none]) zpn_X8 rfl (Nat.le_of_ble_eq_true rfl) ?_
  refine zk_iconst dX8_blow_0 zki_0 ?_
  refine zk_istore_n (i := 3) dX8_blow_1 rfl (Nat.le_of_ble_eq_true rfl) rfl ?_
  obtain ⟨q1, hq1, h⟩ := zk_ob h
  refine zk_weak (zk_leS (zk_leS (zk_leS (zk_leS zk_leE)))) (fScene_blow_L2_ok hd 500 mem a2 (0 : Int32) _ hq1 ?_)
  refine zk_aload_n (i := 0) dX8_blow_37 rfl rfl ?_
  refine zk_getR 4 8 0 dX8_blow_38 zf_X8_11 (Nat.le_of_ble_eq_true rfl) rfl rfl ?_
  refine zk_bipush dX8_blow_41 zkb_41 ?_
  refine zk_dup2 dX8_blow_43 rfl rfl ?_
  refine zk_iaload 5 42 dX8_blow_44 (Nat.le_of_ble_eq_true rfl) rfl (zk_inb_in (by decide)) ?_
  refine zk_iconst dX8_blow_45 zki_1 ?_
  refine zk_iadd dX8_blow_46 ?_
  obtain ⟨m2, em2, h⟩ := zk_lt h
  refine zk_iastore' 5 42 dX8_blow_47 (Nat.le_of_ble_eq_true rfl) rfl (zk_inb_in (by decide)) em2 ?_
  exact zk_vreturn dX8_blow_48 rfl (zk_rVw (Option.some.inj h))
set_option maxRecDepth 100000 in
set_option maxHeartbeats 4000000 in
theorem fScene_outBits_L4_ok {d : Nat} {Z : zkZ} (hd : 1 ≤ d)  : ∀ (n : Nat) (mem : zkM) (x2 : Int32) (x3 : Int32) (z : Int32), fScene_outBits_L4 n mem x2 x3 = some z → zk_J zSX d zY_X8_outBits Z 32 [none, none, some (.int z), none] [] mem → zk_J zSX d zY_X8_outBits Z 4 [some (.ref 4), some (.ref 46), some (.int x2), some (.int x3)] [] mem := by
  intro n
  induction n with
  | zero => intro mem x2 x3 z h; cases h
  | succ n ih =>
    intro mem x2 x3 z h he
    rw [fScene_outBits_L4] at h
    refine zk_iload_n (i := 3) dX8_outBits_4 rfl rfl ?_
    refine zk_aload_n (i := 1) dX8_outBits_5 rfl rfl ?_
    refine zk_callVi zY_X10_ends 46 10 [] dX8_outBits_6 zl_X10_ends zc_X8_30 zk_ok10 (Nat.le_of_ble_eq_true rfl) rfl (fTree_ends_ok (d := 0) (Nat.le_refl _) mem  _ rfl) (Nat.lt_of_lt_of_le (by decide) hd) (Nat.le_of_ble_eq_true rfl) ?_
    refine zk_icmp_ge 32 dX8_outBits_9 rfl (fun c5 => ?_) (fun c5 => ?_)
    · have h := zk_it _ h c5
      cases h
      exact zk_weak (zk_leN (zk_leN (zk_leS (zk_leN zk_leE)))) he
    · have h := zk_if _ h c5
      refine zk_aload_n (i := 0) dX8_outBits_12 rfl rfl ?_
      refine zk_iload_n (i := 3) dX8_outBits_13 rfl rfl ?_
      obtain ⟨q1, hq1, h⟩ := zk_ob h
      refine zk_callVi zY_X8_isOut 4 8 [_] dX8_outBits_14 zl_X8_isOut zc_X8_34 zk_ok8 (Nat.le_of_ble_eq_true rfl) rfl (fScene_isOut_ok (d := 0) (Nat.le_refl _) mem _ _ hq1) (Nat.lt_of_lt_of_le (by decide) hd) (Nat.le_of_ble_eq_true rfl) ?_
      obtain ⟨q2, hq2, h⟩ := zk_lt h
      have Jq2 : zk_J zSX d zY_X8_outBits Z 26 [some (.ref 4), some (.ref 46), some (.int q2), some (.int x3)] [] mem := by
        refine zk_iinc2 dX8_outBits_26 rfl zki_1 (Nat.le_of_ble_eq_true rfl) rfl ?_
        refine zk_goto 4 dX8_outBits_29 rfl ?_
        exact zk_weak (zk_leS (zk_leS (zk_leS (zk_leS zk_leE)))) (ih mem q2 (x3 + (1 : Int32)) _ h he)
      have h := hq2
      clear hq2
      refine zk_if_eq 26 dX8_outBits_17 rfl (fun c4 => ?_) (fun c4 => ?_)
      · have h := zk_it _ h c4
        subst h
        exact zk_weak (zk_leS (zk_leS (zk_leS (zk_leS zk_leE)))) Jq2
      · have h := zk_if _ h c4
        refine zk_iload_n (i := 2) dX8_outBits_20 rfl rfl ?_
        refine zk_iconst dX8_outBits_21 zki_1 ?_
        refine zk_iload_n (i := 3) dX8_outBits_22 rfl rfl ?_
        refine zk_ishl dX8_outBits_23 ?_
        refine zk_ior dX8_outBits_24 ?_
        obtain ⟨v3, ev3, h⟩ := zk_lt h
        refine zk_istore_n' (i := 2) dX8_outBits_25 rfl ev3 (Nat.le_of_ble_eq_true rfl) rfl ?_
        subst h
        exact zk_weak (zk_leS (zk_leS (zk_leS (zk_leS zk_leE)))) Jq2
set_option maxRecDepth 100000 in
set_option maxHeartbeats 4000000 in
theorem fScene_outBits_ok {d : Nat} (hd : 1 ≤ d) (mem : zkM) (z : Int32) (h : fScene_outBits mem = some z) : zk_X zSX d zY_X8_outBits [.ref 4, .ref 46] mem (some (.int z), mem) := by
  unfold fScene_outBits at h
  refine zk_meet (n := 2) (lv := [some (.ref 4), some (.ref 46), none, none]) zpn_X8 rfl (Nat.le_of_ble_eq_true rfl) ?_
  refine zk_iconst dX8_outBits_0 zki_0 ?_
  refine zk_istore_n (i := 2) dX8_outBits_1 rfl (Nat.le_of_ble_eq_true rfl) rfl ?_
  refine zk_iconst dX8_outBits_2 zki_0 ?_
  refine zk_istore_n (i := 3) dX8_outBits_3 rfl (Nat.le_of_ble_eq_true rfl) rfl ?_
  obtain ⟨q1, hq1, h⟩ := zk_ob h
  refine zk_weak (zk_leS (zk_leS (zk_leS (zk_leS zk_leE)))) (fScene_outBits_L4_ok hd 500 mem (0 : Int32) (0 : Int32) _ hq1 ?_)
  refine zk_iload_n (i := 2) dX8_outBits_32 rfl rfl ?_
  exact zk_ireturn dX8_outBits_33 rfl (zk_rI (Option.some.inj h))
set_option maxRecDepth 100000 in
set_option maxHeartbeats 4000000 in
theorem fJint_bitCount_ok {d : Nat} (hd : 0 ≤ d) (mem : zkM) (a0 : Int32) (z : Int32) (h : fJint_bitCount a0 = z) : zk_X zSX d zY_J6_bitCount_0f7a4 [.int a0] mem (some (.int z), mem) := by
  unfold fJint_bitCount at h
  refine zk_meet (n := 0) (lv := [some (.int a0)]) zpn_J6 rfl (Nat.le_of_ble_eq_true rfl) ?_
  refine zk_iload_n (i := 0) dJ6_bitCount_0f7a4_0 rfl rfl ?_
  refine zk_iload_n (i := 0) dJ6_bitCount_0f7a4_1 rfl rfl ?_
  refine zk_iconst dJ6_bitCount_0f7a4_2 zki_1 ?_
  refine zk_iushr dJ6_bitCount_0f7a4_3 rfl ?_
  refine zk_ldcw dJ6_bitCount_0f7a4_4 zd_J6_265 ?_
  refine zk_iand dJ6_bitCount_0f7a4_7 ?_
  refine zk_isub dJ6_bitCount_0f7a4_8 ?_
  obtain ⟨v1, ev1, h⟩ := zk_lt h
  refine zk_istore_n' (i := 0) dJ6_bitCount_0f7a4_9 rfl ev1 (Nat.le_of_ble_eq_true rfl) rfl ?_
  refine zk_iload_n (i := 0) dJ6_bitCount_0f7a4_10 rfl rfl ?_
  refine zk_ldcw dJ6_bitCount_0f7a4_11 zd_J6_266 ?_
  refine zk_iand dJ6_bitCount_0f7a4_14 ?_
  refine zk_iload_n (i := 0) dJ6_bitCount_0f7a4_15 rfl rfl ?_
  refine zk_iconst dJ6_bitCount_0f7a4_16 zki_2 ?_
  refine zk_iushr dJ6_bitCount_0f7a4_17 rfl ?_
  refine zk_ldcw dJ6_bitCount_0f7a4_18 zd_J6_266 ?_
  refine zk_iand dJ6_bitCount_0f7a4_21 ?_
  refine zk_iadd dJ6_bitCount_0f7a4_22 ?_
  obtain ⟨v2, ev2, h⟩ := zk_lt h
  refine zk_istore_n' (i := 0) dJ6_bitCount_0f7a4_23 rfl ev2 (Nat.le_of_ble_eq_true rfl) rfl ?_
  refine zk_iload_n (i := 0) dJ6_bitCount_0f7a4_24 rfl rfl ?_
  refine zk_iload_n (i := 0) dJ6_bitCount_0f7a4_25 rfl rfl ?_
  refine zk_iconst dJ6_bitCount_0f7a4_26 zki_4 ?_
  refine zk_iushr dJ6_bitCount_0f7a4_27 rfl ?_
  refine zk_iadd dJ6_bitCount_0f7a4_28 ?_
  refine zk_ldcw dJ6_bitCount_0f7a4_29 zd_J6_267 ?_
  refine zk_iand dJ6_bitCount_0f7a4_32 ?_
  obtain ⟨v3, ev3, h⟩ := zk_lt h
  refine zk_istore_n' (i := 0) dJ6_bitCount_0f7a4_33 rfl ev3 (Nat.le_of_ble_eq_true rfl) rfl ?_
  refine zk_iload_n (i := 0) dJ6_bitCount_0f7a4_34 rfl rfl ?_
  refine zk_iload_n (i := 0) dJ6_bitCount_0f7a4_35 rfl rfl ?_
  refine zk_bipush dJ6_bitCount_0f7a4_36 zkb_8 ?_
  refine zk_iushr dJ6_bitCount_0f7a4_38 rfl ?_
  refine zk_iadd dJ6_bitCount_0f7a4_39 ?_
  obtain ⟨v4, ev4, h⟩ := zk_lt h
  refine zk_istore_n' (i := 0) dJ6_bitCount_0f7a4_40 rfl ev4 (Nat.le_of_ble_eq_true rfl) rfl ?_
  refine zk_iload_n (i := 0) dJ6_bitCount_0f7a4_41 rfl rfl ?_
  refine zk_iload_n (i := 0) dJ6_bitCount_0f7a4_42 rfl rfl ?_
  refine zk_bipush dJ6_bitCount_0f7a4_43 zkb_16 ?_
  refine zk_iushr dJ6_bitCount_0f7a4_45 rfl ?_
  refine zk_iadd dJ6_bitCount_0f7a4_46 ?_
  obtain ⟨v5, ev5, h⟩ := zk_lt h
  refine zk_istore_n' (i := 0) dJ6_bitCount_0f7a4_47 rfl ev5 (Nat.le_of_ble_eq_true rfl) rfl ?_
  refine zk_iload_n (i := 0) dJ6_bitCount_0f7a4_48 rfl rfl ?_
  refine zk_bipush dJ6_bitCount_0f7a4_49 zkb_63 ?_
  refine zk_iand dJ6_bitCount_0f7a4_51 ?_
  exact zk_ireturn dJ6_bitCount_0f7a4_52 rfl (zk_rI h)
set_option maxRecDepth 100000 in
set_option maxHeartbeats 4000000 in
theorem fScene_outs_ok {d : Nat} (hd : 2 ≤ d) (mem : zkM) (z : Int32) (h : fScene_outs mem = some z) : zk_X zSX d zY_X8_outs [.ref 4, .ref 46] mem (some (.int z), mem) := by
  unfold fScene_outs at h
  refine zk_meet (n := 0) (lv := [some (.ref 4), some (.ref 46)]) zpn_X8 rfl (Nat.le_of_ble_eq_true rfl) ?_
  refine zk_aload_n (i := 0) dX8_outs_0 rfl rfl ?_
  refine zk_aload_n (i := 1) dX8_outs_1 rfl rfl ?_
  obtain ⟨q1, hq1, h⟩ := zk_ob h
  refine zk_callVi zY_X8_outBits 4 8 [_] dX8_outs_2 zl_X8_outBits zc_X8_65 zk_ok8 (Nat.le_of_ble_eq_true rfl) rfl (fScene_outBits_ok (d := 1) (Nat.le_refl _) mem  _ hq1) (Nat.lt_of_lt_of_le (by decide) hd) (Nat.le_of_ble_eq_true rfl) ?_
  refine zk_callSi zY_J6_bitCount_0f7a4 [_] dX8_outs_5 zl_J6_bitCount_0f7a4 zc_X8_69 (fJint_bitCount_ok (d := 0) (Nat.le_refl _) mem _ _ rfl) (Nat.lt_of_lt_of_le (by decide) hd) (Nat.le_of_ble_eq_true rfl) ?_
  exact zk_ireturn dX8_outs_8 rfl (zk_rI (Option.some.inj h))
set_option maxRecDepth 100000 in
set_option maxHeartbeats 4000000 in
theorem fTp_gale_ok {d : Nat} (hd : 3 ≤ d) (mem : zkM) (a1 : Int32) (z : Int32 × zkM) (h : fTp_gale mem a1 = some z) : zk_X zSX d zY_X11_gale [.ref 0, .int a1] mem (some (.int z.1), z.2) := by
  unfold fTp_gale at h
  refine zk_meet (n := 0) (lv := [some (.ref 0), some (.int a1)]) zpn_X11 rfl (Nat.le_of_ble_eq_true rfl) ?_
  refine zk_iload_n (i := 1) dX11_gale_0 rfl rfl ?_
  refine zk_callSi zY_X11_isForce [_] dX11_gale_1 zl_X11_isForce zc_X11_207 (fTp_isForce_ok (d := 1) (Nat.le_refl _) mem _ _ rfl) (Nat.lt_of_lt_of_le (by decide) hd) (Nat.le_of_ble_eq_true rfl) ?_
  refine zk_if_ne 9 dX11_gale_4 rfl (fun c5 => ?_) (fun c5 => ?_)
  · have h := zk_if _ h c5
    refine zk_aload_n (i := 0) dX11_gale_9 rfl rfl ?_
    refine zk_getR 0 11 1 dX11_gale_10 zf_X11_19 (Nat.le_of_ble_eq_true rfl) rfl rfl ?_
    refine zk_callVi zY_X8_gales 4 8 [] dX11_gale_13 zl_X8_gales zc_X11_192 zk_ok8 (Nat.le_of_ble_eq_true rfl) rfl (fScene_gales_ok (d := 0) (Nat.le_refl _) mem  _ rfl) (Nat.lt_of_lt_of_le (by decide) hd) (Nat.le_of_ble_eq_true rfl) ?_
    refine zk_sipush dX11_gale_16 zks_999 ?_
    refine zk_icmp_lt 25 dX11_gale_19 rfl (fun c4 => ?_) (fun c4 => ?_)
    · have h := zk_it _ h c4
      refine zk_aload_n (i := 0) dX11_gale_25 rfl rfl ?_
      refine zk_getR 0 11 3 dX11_gale_26 zf_X11_33 (Nat.le_of_ble_eq_true rfl) rfl rfl ?_
      refine zk_aload_n (i := 0) dX11_gale_29 rfl rfl ?_
      refine zk_getR 0 11 1 dX11_gale_30 zf_X11_19 (Nat.le_of_ble_eq_true rfl) rfl rfl ?_
      obtain ⟨q1, hq1, h⟩ := zk_ob h
      refine zk_callVv zY_X5_remember 9 5 [_] dX11_gale_33 zl_X5_remember zc_X11_199 zk_ok5 (Nat.le_of_ble_eq_true rfl) rfl (fPast_remember_ok (d := 1) (Nat.le_refl _) mem  _ hq1) (Nat.lt_of_lt_of_le (by decide) hd) (Nat.le_of_ble_eq_true rfl) ?_
      refine zk_aload_n (i := 0) dX11_gale_36 rfl rfl ?_
      refine zk_getR 0 11 1 dX11_gale_37 zf_X11_19 (Nat.le_of_ble_eq_true rfl) rfl rfl ?_
      refine zk_aload_n (i := 0) dX11_gale_40 rfl rfl ?_
      refine zk_getR 0 11 10 dX11_gale_41 zf_X11_82 (Nat.le_of_ble_eq_true rfl) rfl rfl ?_
      refine zk_iload_n (i := 1) dX11_gale_44 rfl rfl ?_
      obtain ⟨q2, hq2, h⟩ := zk_ob h
      refine zk_callVv zY_X8_blow 4 8 [_, _] dX11_gale_45 zl_X8_blow zc_X11_210 zk_ok8 (Nat.le_of_ble_eq_true rfl) rfl (fScene_blow_ok (d := 2) (Nat.le_refl _) q1 _ _ hq2) (Nat.lt_of_lt_of_le (by decide) hd) (Nat.le_of_ble_eq_true rfl) ?_
      refine zk_aload_n (i := 0) dX11_gale_48 rfl rfl ?_
      refine zk_getR 0 11 1 dX11_gale_49 zf_X11_19 (Nat.le_of_ble_eq_true rfl) rfl rfl ?_
      refine zk_aload_n (i := 0) dX11_gale_52 rfl rfl ?_
      refine zk_getR 0 11 10 dX11_gale_53 zf_X11_82 (Nat.le_of_ble_eq_true rfl) rfl rfl ?_
      obtain ⟨q3, hq3, h⟩ := zk_ob h
      refine zk_callVi zY_X8_outs 4 8 [_] dX11_gale_56 zl_X8_outs zc_X11_214 zk_ok8 (Nat.le_of_ble_eq_true rfl) rfl (fScene_outs_ok (d := 2) (Nat.le_refl _) q2  _ hq3) (Nat.lt_of_lt_of_le (by decide) hd) (Nat.le_of_ble_eq_true rfl) ?_
      exact zk_ireturn dX11_gale_59 rfl (zk_rIw (Option.some.inj h))
    · have h := zk_if _ h c4
      refine zk_bipush dX11_gale_22 zkb_m2 ?_
      exact zk_ireturn dX11_gale_24 rfl (zk_rIw (Option.some.inj h))
  · have h := zk_it _ h c5
    refine zk_iconst dX11_gale_7 zki_m1 ?_
    exact zk_ireturn dX11_gale_8 rfl (zk_rIw (Option.some.inj h))
set_option maxRecDepth 100000 in
set_option maxHeartbeats 4000000 in
theorem fScene_doAnew_ok {d : Nat} (hd : 0 ≤ d) (mem : zkM) (a1 : Int32) (a2 : Int32) (z : zkM) (h : fScene_doAnew mem a1 a2 = some z) : zk_X zSX d zY_X8_doAnew [.ref 4, .int a1, .int a2] mem (none, z) := by
  unfold fScene_doAnew at h
  refine zk_meet (n := 0) (lv := [some (.ref 4), some (.int a1), some (.int a2)]) zpn_X8 rfl (Nat.le_of_ble_eq_true rfl) ?_
  refine zk_aload_n (i := 0) dX8_doAnew_0 rfl rfl ?_
  refine zk_getR 4 8 0 dX8_doAnew_1 zf_X8_11 (Nat.le_of_ble_eq_true rfl) rfl rfl ?_
  refine zk_iconst dX8_doAnew_4 zki_5 ?_
  refine zk_iload_n (i := 1) dX8_doAnew_5 rfl rfl ?_
  refine zk_iadd dX8_doAnew_6 ?_
  refine zk_iload_n (i := 2) dX8_doAnew_7 rfl rfl ?_
  obtain ⟨b1, h⟩ := zk_gd h
  obtain ⟨m2, em2, h⟩ := zk_lt h
  refine zk_iastore' 5 42 dX8_doAnew_8 (Nat.le_of_ble_eq_true rfl) rfl (zk_inb_in b1) em2 ?_
  refine zk_aload_n (i := 0) dX8_doAnew_9 rfl rfl ?_
  refine zk_getR 4 8 0 dX8_doAnew_10 zf_X8_11 (Nat.le_of_ble_eq_true rfl) rfl rfl ?_
  refine zk_bipush dX8_doAnew_13 zkb_17 ?_
  refine zk_iload_n (i := 1) dX8_doAnew_15 rfl rfl ?_
  refine zk_iadd dX8_doAnew_16 ?_
  refine zk_iconst dX8_doAnew_17 zki_0 ?_
  obtain ⟨b3, h⟩ := zk_gd h
  obtain ⟨m4, em4, h⟩ := zk_lt h
  refine zk_iastore' 5 42 dX8_doAnew_18 (Nat.le_of_ble_eq_true rfl) rfl (zk_inb_in b3) em4 ?_
  refine zk_aload_n (i := 0) dX8_doAnew_19 rfl rfl ?_
  refine zk_getR 4 8 0 dX8_doAnew_20 zf_X8_11 (Nat.le_of_ble_eq_true rfl) rfl rfl ?_
  refine zk_bipush dX8_doAnew_23 zkb_29 ?_
  refine zk_iload_n (i := 1) dX8_doAnew_25 rfl rfl ?_
  refine zk_iadd dX8_doAnew_26 ?_
  refine zk_iconst dX8_doAnew_27 zki_0 ?_
  obtain ⟨b5, h⟩ := zk_gd h
  obtain ⟨m6, em6, h⟩ := zk_lt h
  refine zk_iastore' 5 42 dX8_doAnew_28 (Nat.le_of_ble_eq_true rfl) rfl (zk_inb_in b5) em6 ?_
  exact zk_vreturn dX8_doAnew_29 rfl (zk_rVw (Option.some.inj h))
set_option maxRecDepth 100000 in
set_option maxHeartbeats 4000000 in
theorem fTp_join_ok {d : Nat} (hd : 3 ≤ d) (mem : zkM) (a1 : Int32) (a2 : Int32) (a3 : Int32) (z : Int32 × zkM) (h : fTp_join mem a1 a2 a3 = some z) : zk_X zSX d zY_X11_join [.ref 0, .int a1, .int a2, .int a3] mem (some (.int z.1), z.2) := by
  unfold fTp_join at h
  refine zk_meet (n := 1) (lv := [some (.ref 0), some (.int a1), some (.int a2), some (.int a3), none]) zpn_X11 rfl (Nat.le_of_ble_eq_true rfl) ?_
  refine zk_aload_n (i := 0) dX11_join_0 rfl rfl ?_
  refine zk_iload_n (i := 1) dX11_join_1 rfl rfl ?_
  refine zk_iload_n (i := 2) dX11_join_2 rfl rfl ?_
  refine zk_callVi zY_X11_isEnd 0 11 [_, _] dX11_join_3 zl_X11_isEnd zc_X11_152 zk_ok11 (Nat.le_of_ble_eq_true rfl) rfl (fTp_isEnd_ok (d := 2) (Nat.le_refl _) mem _ _ _ rfl) (Nat.lt_of_lt_of_le (by decide) hd) (Nat.le_of_ble_eq_true rfl) ?_
  refine zk_if_eq 18 dX11_join_6 rfl (fun c5 => ?_) (fun c5 => ?_)
  · have h := zk_it _ h c5
    refine zk_iconst dX11_join_18 zki_m1 ?_
    exact zk_ireturn dX11_join_19 rfl (zk_rIw (Option.some.inj h))
  · have h := zk_if _ h c5
    refine zk_iload_n (i := 3) dX11_join_9 rfl rfl ?_
    refine zk_iconst dX11_join_10 zki_0 ?_
    refine zk_iconst dX11_join_11 zki_3 ?_
    refine zk_callSi zY_X11_within [_, _, _] dX11_join_12 zl_X11_within zc_X11_93 (fTp_within_ok (d := 0) (Nat.le_refl _) mem _ _ _ _ rfl) (Nat.lt_of_lt_of_le (by decide) hd) (Nat.le_of_ble_eq_true rfl) ?_
    refine zk_if_ne 20 dX11_join_15 rfl (fun c4 => ?_) (fun c4 => ?_)
    · have h := zk_if _ h c4
      refine zk_aload_n (i := 0) dX11_join_20 rfl rfl ?_
      refine zk_getR 0 11 3 dX11_join_21 zf_X11_33 (Nat.le_of_ble_eq_true rfl) rfl rfl ?_
      refine zk_aload_n (i := 0) dX11_join_24 rfl rfl ?_
      refine zk_getR 0 11 1 dX11_join_25 zf_X11_19 (Nat.le_of_ble_eq_true rfl) rfl rfl ?_
      obtain ⟨q1, hq1, h⟩ := zk_ob h
      refine zk_callVv zY_X5_remember 9 5 [_] dX11_join_28 zl_X5_remember zc_X11_199 zk_ok5 (Nat.le_of_ble_eq_true rfl) rfl (fPast_remember_ok (d := 1) (Nat.le_refl _) mem  _ hq1) (Nat.lt_of_lt_of_le (by decide) hd) (Nat.le_of_ble_eq_true rfl) ?_
      refine zk_aload_n (i := 0) dX11_join_31 rfl rfl ?_
      refine zk_getR 0 11 1 dX11_join_32 zf_X11_19 (Nat.le_of_ble_eq_true rfl) rfl rfl ?_
      refine zk_iconst dX11_join_35 zki_2 ?_
      refine zk_iload_n (i := 1) dX11_join_36 rfl rfl ?_
      refine zk_imul dX11_join_37 ?_
      refine zk_iload_n (i := 2) dX11_join_38 rfl rfl ?_
      refine zk_iadd dX11_join_39 ?_
      obtain ⟨q2, hq2, h⟩ := zk_ob h
      refine zk_callVi zY_X8_kindOf 4 8 [_] dX11_join_40 zl_X8_kindOf zc_X11_156 zk_ok8 (Nat.le_of_ble_eq_true rfl) rfl (fScene_kindOf_ok (d := 0) (Nat.le_refl _) q1 _ _ hq2) (Nat.lt_of_lt_of_le (by decide) hd) (Nat.le_of_ble_eq_true rfl) ?_
      refine zk_istore dX11_join_43 (Nat.le_of_ble_eq_true rfl) rfl ?_
      refine zk_aload_n (i := 0) dX11_join_45 rfl rfl ?_
      refine zk_getR 0 11 1 dX11_join_46 zf_X11_19 (Nat.le_of_ble_eq_true rfl) rfl rfl ?_
      refine zk_iconst dX11_join_49 zki_2 ?_
      refine zk_iload_n (i := 1) dX11_join_50 rfl rfl ?_
      refine zk_imul dX11_join_51 ?_
      refine zk_iload_n (i := 2) dX11_join_52 rfl rfl ?_
      refine zk_iadd dX11_join_53 ?_
      refine zk_iload_n (i := 3) dX11_join_54 rfl rfl ?_
      obtain ⟨q3, hq3, h⟩ := zk_ob h
      refine zk_callVv zY_X8_doAnew 4 8 [_, _] dX11_join_55 zl_X8_doAnew zc_X11_217 zk_ok8 (Nat.le_of_ble_eq_true rfl) rfl (fScene_doAnew_ok (d := 0) (Nat.le_refl _) q1 _ _ _ hq3) (Nat.lt_of_lt_of_le (by decide) hd) (Nat.le_of_ble_eq_true rfl) ?_
      refine zk_iload dX11_join_58 rfl ?_
      exact zk_ireturn dX11_join_60 rfl (zk_rIw (Option.some.inj h))
    · have h := zk_it _ h c4
      refine zk_iconst dX11_join_18 zki_m1 ?_
      exact zk_ireturn dX11_join_19 rfl (zk_rIw (Option.some.inj h))
set_option maxRecDepth 100000 in
set_option maxHeartbeats 4000000 in
theorem fScene_growBark_L4_ok {d : Nat} {Z : zkZ} (hd : 1 ≤ d)  : ∀ (n : Nat) (mem : zkM) (x2 : Int32) (x3 : Int32) (z : Int32 × zkM), fScene_growBark_L4 n mem x2 x3 = some z → zk_J zSX d zY_X8_growBark Z 66 [none, none, some (.int z.1), none] [] z.2 → zk_J zSX d zY_X8_growBark Z 4 [some (.ref 4), some (.ref 46), some (.int x2), some (.int x3)] [] mem := by
  intro n
  induction n with
  | zero => intro mem x2 x3 z h; cases h
  | succ n ih =>
    intro mem x2 x3 z h he
    rw [fScene_growBark_L4] at h
    refine zk_iload_n (i := 3) dX8_growBark_4 rfl rfl ?_
    refine zk_aload_n (i := 1) dX8_growBark_5 rfl rfl ?_
    refine zk_callVi zY_X10_ends 46 10 [] dX8_growBark_6 zl_X10_ends zc_X8_30 zk_ok10 (Nat.le_of_ble_eq_true rfl) rfl (fTree_ends_ok (d := 0) (Nat.le_refl _) mem  _ rfl) (Nat.lt_of_lt_of_le (by decide) hd) (Nat.le_of_ble_eq_true rfl) ?_
    refine zk_icmp_ge 66 dX8_growBark_9 rfl (fun c11 => ?_) (fun c11 => ?_)
    · have h := zk_it _ h c11
      cases h
      exact zk_weak (zk_leN (zk_leN (zk_leS (zk_leN zk_leE)))) he
    · have h := zk_if _ h c11
      refine zk_aload_n (i := 0) dX8_growBark_12 rfl rfl ?_
      refine zk_iload_n (i := 3) dX8_growBark_13 rfl rfl ?_
      obtain ⟨q1, hq1, h⟩ := zk_ob h
      refine zk_callVi zY_X8_kindOf 4 8 [_] dX8_growBark_14 zl_X8_kindOf zc_X8_46 zk_ok8 (Nat.le_of_ble_eq_true rfl) rfl (fScene_kindOf_ok (d := 0) (Nat.le_refl _) mem _ _ hq1) (Nat.lt_of_lt_of_le (by decide) hd) (Nat.le_of_ble_eq_true rfl) ?_
      refine zk_iconst dX8_growBark_17 zki_1 ?_
      obtain ⟨q2, hq2, h⟩ := zk_ob h
      have Jq2 : zk_J zSX d zY_X8_growBark Z 60 [some (.ref 4), some (.ref 46), some (.int q2.1), some (.int x3)] [] q2.2 := by
        refine zk_iinc2 dX8_growBark_60 rfl zki_1 (Nat.le_of_ble_eq_true rfl) rfl ?_
        refine zk_goto 4 dX8_growBark_63 rfl ?_
        exact zk_weak (zk_leS (zk_leS (zk_leS (zk_leS zk_leE)))) (ih q2.2 q2.1 (x3 + (1 : Int32)) _ h he)
      have h := hq2
      clear hq2
      refine zk_icmp_ne 60 dX8_growBark_18 rfl (fun c10 => ?_) (fun c10 => ?_)
      · have h := zk_if _ h c10
        cases h
        exact zk_weak (zk_leS (zk_leS (zk_leS (zk_leS zk_leE)))) Jq2
      · have h := zk_it _ h c10
        refine zk_aload_n (i := 0) dX8_growBark_21 rfl rfl ?_
        refine zk_iload_n (i := 3) dX8_growBark_22 rfl rfl ?_
        obtain ⟨q3, hq3, h⟩ := zk_ob h
        refine zk_callVi zY_X8_isOut 4 8 [_] dX8_growBark_23 zl_X8_isOut zc_X8_34 zk_ok8 (Nat.le_of_ble_eq_true rfl) rfl (fScene_isOut_ok (d := 0) (Nat.le_refl _) mem _ _ hq3) (Nat.lt_of_lt_of_le (by decide) hd) (Nat.le_of_ble_eq_true rfl) ?_
        refine zk_if_ne 60 dX8_growBark_26 rfl (fun c9 => ?_) (fun c9 => ?_)
        · have h := zk_if _ h c9
          cases h
          exact zk_weak (zk_leS (zk_leS (zk_leS (zk_leS zk_leE)))) Jq2
        · have h := zk_it _ h c9
          refine zk_aload_n (i := 0) dX8_growBark_29 rfl rfl ?_
          refine zk_iload_n (i := 3) dX8_growBark_30 rfl rfl ?_
          obtain ⟨q4, hq4, h⟩ := zk_ob h
          refine zk_callVi zY_X8_wearOf 4 8 [_] dX8_growBark_31 zl_X8_wearOf zc_X8_53 zk_ok8 (Nat.le_of_ble_eq_true rfl) rfl (fScene_wearOf_ok (d := 0) (Nat.le_refl _) mem _ _ hq4) (Nat.lt_of_lt_of_le (by decide) hd) (Nat.le_of_ble_eq_true rfl) ?_
          refine zk_if_le 60 dX8_growBark_34 rfl (fun c8 => ?_) (fun c8 => ?_)
          · have h := zk_it _ h c8
            cases h
            exact zk_weak (zk_leS (zk_leS (zk_leS (zk_leS zk_leE)))) Jq2
          · have h := zk_if _ h c8
            refine zk_aload_n (i := 0) dX8_growBark_37 rfl rfl ?_
            refine zk_getR 4 8 0 dX8_growBark_38 zf_X8_11 (Nat.le_of_ble_eq_true rfl) rfl rfl ?_
            refine zk_bipush dX8_growBark_41 zkb_17 ?_
            refine zk_iload_n (i := 3) dX8_growBark_43 rfl rfl ?_
            refine zk_iadd dX8_growBark_44 ?_
            refine zk_iconst dX8_growBark_45 zki_0 ?_
            refine zk_aload_n (i := 0) dX8_growBark_46 rfl rfl ?_
            refine zk_iload_n (i := 3) dX8_growBark_47 rfl rfl ?_
            obtain ⟨q5, hq5, h⟩ := zk_ob h
            refine zk_callVi zY_X8_wearOf 4 8 [_] dX8_growBark_48 zl_X8_wearOf zc_X8_53 zk_ok8 (Nat.le_of_ble_eq_true rfl) rfl (fScene_wearOf_ok (d := 0) (Nat.le_refl _) mem _ _ hq5) (Nat.lt_of_lt_of_le (by decide) hd) (Nat.le_of_ble_eq_true rfl) ?_
            refine zk_iconst dX8_growBark_51 zki_2 ?_
            refine zk_isub dX8_growBark_52 ?_
            refine zk_mmax dX8_growBark_53 zc_X8_59 zm_max (Nat.le_of_ble_eq_true rfl) ?_
            obtain ⟨b6, h⟩ := zk_gd h
            obtain ⟨m7, em7, h⟩ := zk_lt h
            refine zk_iastore' 5 42 dX8_growBark_56 (Nat.le_of_ble_eq_true rfl) rfl (zk_inb_in b6) em7 ?_
            refine zk_iinc2 dX8_growBark_57 rfl zki_1 (Nat.le_of_ble_eq_true rfl) rfl ?_
            cases h
            exact zk_weak (zk_leS (zk_leS (zk_leS (zk_leS zk_leE)))) Jq2
