theorem zkb_31 : (Int8.ofInt 31).toInt32 = (31 : Int32) := by decide +kernel
theorem zc_L_13 : Cond.methodLink RL 13 yX11_type ∈ zk_tb ∧ Cond.instanceMethod yX11_type ∈ zk_tb ∧ Cond.selects RX11 yX11_type yX11_type ∈ zk_tb := ⟨zk_ix 375 (by decide +kernel) rfl, zk_ix 376 (by decide +kernel) rfl, zk_ix 377 (by decide +kernel) rfl⟩
theorem zl_X11_type : zk_lk zY_X11_type 1 := ⟨zk_ix 378 (by decide +kernel) rfl, zk_ix 62 (by decide +kernel) rfl, by decide +kernel, by decide⟩
theorem zc_L_17 : Cond.methodLink RL 17 yX12_type ∈ zk_tb ∧ Cond.instanceMethod yX12_type ∈ zk_tb ∧ Cond.selects RX12 yX12_type yX12_type ∈ zk_tb := ⟨zk_ix 1035 (by decide +kernel) rfl, zk_ix 1036 (by decide +kernel) rfl, zk_ix 1037 (by decide +kernel) rfl⟩
theorem zl_X12_type : zk_lk zY_X12_type 1 := ⟨zk_ix 1038 (by decide +kernel) rfl, zk_ix 74 (by decide +kernel) rfl, by decide +kernel, by decide⟩
theorem zc_L_18 : Cond.methodLink RL 18 yX11_clear ∈ zk_tb ∧ Cond.instanceMethod yX11_clear ∈ zk_tb ∧ Cond.selects RX11 yX11_clear yX11_clear ∈ zk_tb := ⟨zk_ix 386 (by decide +kernel) rfl, zk_ix 387 (by decide +kernel) rfl, zk_ix 388 (by decide +kernel) rfl⟩
theorem zl_X11_clear : zk_lk zY_X11_clear 0 := ⟨zk_ix 389 (by decide +kernel) rfl, zk_ix 62 (by decide +kernel) rfl, by decide +kernel, by decide⟩
theorem zc_L_22 : Cond.methodLink RL 22 yX12_clear ∈ zk_tb ∧ Cond.instanceMethod yX12_clear ∈ zk_tb ∧ Cond.selects RX12 yX12_clear yX12_clear ∈ zk_tb := ⟨zk_ix 1042 (by decide +kernel) rfl, zk_ix 1043 (by decide +kernel) rfl, zk_ix 1044 (by decide +kernel) rfl⟩
theorem zl_X12_clear : zk_lk zY_X12_clear 0 := ⟨zk_ix 1045 (by decide +kernel) rfl, zk_ix 74 (by decide +kernel) rfl, by decide +kernel, by decide⟩
theorem zc_L_23 : Cond.methodLink RL 23 yX11_tree ∈ zk_tb ∧ Cond.instanceMethod yX11_tree ∈ zk_tb ∧ Cond.selects RX11 yX11_tree yX11_tree ∈ zk_tb := ⟨zk_ix 390 (by decide +kernel) rfl, zk_ix 391 (by decide +kernel) rfl, zk_ix 392 (by decide +kernel) rfl⟩
theorem zl_X11_tree : zk_lk zY_X11_tree 0 := ⟨zk_ix 393 (by decide +kernel) rfl, zk_ix 62 (by decide +kernel) rfl, by decide +kernel, by decide⟩
theorem zc_L_26 : Cond.methodLink RL 26 yX12_tree ∈ zk_tb ∧ Cond.instanceMethod yX12_tree ∈ zk_tb ∧ Cond.selects RX12 yX12_tree yX12_tree ∈ zk_tb := ⟨zk_ix 1046 (by decide +kernel) rfl, zk_ix 1047 (by decide +kernel) rfl, zk_ix 1048 (by decide +kernel) rfl⟩
theorem zl_X12_tree : zk_lk zY_X12_tree 0 := ⟨zk_ix 1049 (by decide +kernel) rfl, zk_ix 74 (by decide +kernel) rfl, by decide +kernel, by decide⟩
theorem zc_L_27 : Cond.methodLink RL 27 yX11_bough ∈ zk_tb ∧ Cond.instanceMethod yX11_bough ∈ zk_tb ∧ Cond.selects RX11 yX11_bough yX11_bough ∈ zk_tb := ⟨zk_ix 474 (by decide +kernel) rfl, zk_ix 475 (by decide +kernel) rfl, zk_ix 476 (by decide +kernel) rfl⟩
theorem zl_X11_bough : zk_lk zY_X11_bough 2 := ⟨zk_ix 477 (by decide +kernel) rfl, zk_ix 62 (by decide +kernel) rfl, by decide +kernel, by decide⟩
theorem zc_L_31 : Cond.methodLink RL 31 yX12_bough ∈ zk_tb ∧ Cond.instanceMethod yX12_bough ∈ zk_tb ∧ Cond.selects RX12 yX12_bough yX12_bough ∈ zk_tb := ⟨zk_ix 1086 (by decide +kernel) rfl, zk_ix 1087 (by decide +kernel) rfl, zk_ix 1088 (by decide +kernel) rfl⟩
theorem zl_X12_bough : zk_lk zY_X12_bough 2 := ⟨zk_ix 1089 (by decide +kernel) rfl, zk_ix 74 (by decide +kernel) rfl, by decide +kernel, by decide⟩
theorem zc_L_32 : Cond.methodLink RL 32 yX11_plank ∈ zk_tb ∧ Cond.instanceMethod yX11_plank ∈ zk_tb ∧ Cond.selects RX11 yX11_plank yX11_plank ∈ zk_tb := ⟨zk_ix 495 (by decide +kernel) rfl, zk_ix 496 (by decide +kernel) rfl, zk_ix 497 (by decide +kernel) rfl⟩
theorem zl_X11_plank : zk_lk zY_X11_plank 2 := ⟨zk_ix 498 (by decide +kernel) rfl, zk_ix 62 (by decide +kernel) rfl, by decide +kernel, by decide⟩
theorem zc_L_35 : Cond.methodLink RL 35 yX12_plank ∈ zk_tb ∧ Cond.instanceMethod yX12_plank ∈ zk_tb ∧ Cond.selects RX12 yX12_plank yX12_plank ∈ zk_tb := ⟨zk_ix 1106 (by decide +kernel) rfl, zk_ix 1107 (by decide +kernel) rfl, zk_ix 1108 (by decide +kernel) rfl⟩
theorem zl_X12_plank : zk_lk zY_X12_plank 2 := ⟨zk_ix 1109 (by decide +kernel) rfl, zk_ix 74 (by decide +kernel) rfl, by decide +kernel, by decide⟩
theorem zc_L_36 : Cond.methodLink RL 36 yX11_end ∈ zk_tb ∧ Cond.instanceMethod yX11_end ∈ zk_tb ∧ Cond.selects RX11 yX11_end yX11_end ∈ zk_tb := ⟨zk_ix 503 (by decide +kernel) rfl, zk_ix 504 (by decide +kernel) rfl, zk_ix 505 (by decide +kernel) rfl⟩
theorem zl_X11_end : zk_lk zY_X11_end 3 := ⟨zk_ix 506 (by decide +kernel) rfl, zk_ix 62 (by decide +kernel) rfl, by decide +kernel, by decide⟩
theorem zc_L_40 : Cond.methodLink RL 40 yX12_end ∈ zk_tb ∧ Cond.instanceMethod yX12_end ∈ zk_tb ∧ Cond.selects RX12 yX12_end yX12_end ∈ zk_tb := ⟨zk_ix 1114 (by decide +kernel) rfl, zk_ix 1115 (by decide +kernel) rfl, zk_ix 1116 (by decide +kernel) rfl⟩
theorem zl_X12_end : zk_lk zY_X12_end 3 := ⟨zk_ix 1117 (by decide +kernel) rfl, zk_ix 74 (by decide +kernel) rfl, by decide +kernel, by decide⟩
theorem zc_L_41 : Cond.methodLink RL 41 yX11_child ∈ zk_tb ∧ Cond.instanceMethod yX11_child ∈ zk_tb ∧ Cond.selects RX11 yX11_child yX11_child ∈ zk_tb := ⟨zk_ix 523 (by decide +kernel) rfl, zk_ix 524 (by decide +kernel) rfl, zk_ix 525 (by decide +kernel) rfl⟩
theorem zl_X11_child : zk_lk zY_X11_child 2 := ⟨zk_ix 526 (by decide +kernel) rfl, zk_ix 62 (by decide +kernel) rfl, by decide +kernel, by decide⟩
theorem zc_L_44 : Cond.methodLink RL 44 yX12_child ∈ zk_tb ∧ Cond.instanceMethod yX12_child ∈ zk_tb ∧ Cond.selects RX12 yX12_child yX12_child ∈ zk_tb := ⟨zk_ix 1121 (by decide +kernel) rfl, zk_ix 1122 (by decide +kernel) rfl, zk_ix 1123 (by decide +kernel) rfl⟩
theorem zl_X12_child : zk_lk zY_X12_child 2 := ⟨zk_ix 1124 (by decide +kernel) rfl, zk_ix 74 (by decide +kernel) rfl, by decide +kernel, by decide⟩
theorem zc_L_45 : Cond.methodLink RL 45 yX11_now ∈ zk_tb ∧ Cond.instanceMethod yX11_now ∈ zk_tb ∧ Cond.selects RX11 yX11_now yX11_now ∈ zk_tb := ⟨zk_ix 532 (by decide +kernel) rfl, zk_ix 533 (by decide +kernel) rfl, zk_ix 534 (by decide +kernel) rfl⟩
theorem zl_X11_now : zk_lk zY_X11_now 1 := ⟨zk_ix 535 (by decide +kernel) rfl, zk_ix 62 (by decide +kernel) rfl, by decide +kernel, by decide⟩
theorem zc_L_48 : Cond.methodLink RL 48 yX12_now ∈ zk_tb ∧ Cond.instanceMethod yX12_now ∈ zk_tb ∧ Cond.selects RX12 yX12_now yX12_now ∈ zk_tb := ⟨zk_ix 1129 (by decide +kernel) rfl, zk_ix 1130 (by decide +kernel) rfl, zk_ix 1131 (by decide +kernel) rfl⟩
theorem zl_X12_now : zk_lk zY_X12_now 1 := ⟨zk_ix 1132 (by decide +kernel) rfl, zk_ix 74 (by decide +kernel) rfl, by decide +kernel, by decide⟩
theorem zc_L_49 : Cond.methodLink RL 49 yX11_stands ∈ zk_tb ∧ Cond.instanceMethod yX11_stands ∈ zk_tb ∧ Cond.selects RX11 yX11_stands yX11_stands ∈ zk_tb := ⟨zk_ix 564 (by decide +kernel) rfl, zk_ix 565 (by decide +kernel) rfl, zk_ix 566 (by decide +kernel) rfl⟩
theorem zl_X11_stands : zk_lk zY_X11_stands 2 := ⟨zk_ix 567 (by decide +kernel) rfl, zk_ix 62 (by decide +kernel) rfl, by decide +kernel, by decide⟩
theorem zc_L_52 : Cond.methodLink RL 52 yX12_stands ∈ zk_tb ∧ Cond.instanceMethod yX12_stands ∈ zk_tb ∧ Cond.selects RX12 yX12_stands yX12_stands ∈ zk_tb := ⟨zk_ix 1153 (by decide +kernel) rfl, zk_ix 1154 (by decide +kernel) rfl, zk_ix 1155 (by decide +kernel) rfl⟩
theorem zl_X12_stands : zk_lk zY_X12_stands 2 := ⟨zk_ix 1156 (by decide +kernel) rfl, zk_ix 74 (by decide +kernel) rfl, by decide +kernel, by decide⟩
theorem zc_L_53 : Cond.methodLink RL 53 yX11_gale ∈ zk_tb ∧ Cond.instanceMethod yX11_gale ∈ zk_tb ∧ Cond.selects RX11 yX11_gale yX11_gale ∈ zk_tb := ⟨zk_ix 586 (by decide +kernel) rfl, zk_ix 587 (by decide +kernel) rfl, zk_ix 588 (by decide +kernel) rfl⟩
theorem zl_X11_gale : zk_lk zY_X11_gale 1 := ⟨zk_ix 589 (by decide +kernel) rfl, zk_ix 62 (by decide +kernel) rfl, by decide +kernel, by decide⟩
theorem zc_L_56 : Cond.methodLink RL 56 yX12_gale ∈ zk_tb ∧ Cond.instanceMethod yX12_gale ∈ zk_tb ∧ Cond.selects RX12 yX12_gale yX12_gale ∈ zk_tb := ⟨zk_ix 1161 (by decide +kernel) rfl, zk_ix 1162 (by decide +kernel) rfl, zk_ix 1163 (by decide +kernel) rfl⟩
theorem zl_X12_gale : zk_lk zY_X12_gale 1 := ⟨zk_ix 1164 (by decide +kernel) rfl, zk_ix 74 (by decide +kernel) rfl, by decide +kernel, by decide⟩
theorem zc_L_57 : Cond.methodLink RL 57 yX11_join ∈ zk_tb ∧ Cond.instanceMethod yX11_join ∈ zk_tb ∧ Cond.selects RX11 yX11_join yX11_join ∈ zk_tb := ⟨zk_ix 632 (by decide +kernel) rfl, zk_ix 633 (by decide +kernel) rfl, zk_ix 634 (by decide +kernel) rfl⟩
theorem zl_X11_join : zk_lk zY_X11_join 3 := ⟨zk_ix 635 (by decide +kernel) rfl, zk_ix 62 (by decide +kernel) rfl, by decide +kernel, by decide⟩
theorem zc_L_60 : Cond.methodLink RL 60 yX12_join ∈ zk_tb ∧ Cond.instanceMethod yX12_join ∈ zk_tb ∧ Cond.selects RX12 yX12_join yX12_join ∈ zk_tb := ⟨zk_ix 1189 (by decide +kernel) rfl, zk_ix 1190 (by decide +kernel) rfl, zk_ix 1191 (by decide +kernel) rfl⟩
theorem zl_X12_join : zk_lk zY_X12_join 3 := ⟨zk_ix 1192 (by decide +kernel) rfl, zk_ix 74 (by decide +kernel) rfl, by decide +kernel, by decide⟩
theorem zc_L_61 : Cond.methodLink RL 61 yX11_spring ∈ zk_tb ∧ Cond.instanceMethod yX11_spring ∈ zk_tb ∧ Cond.selects RX11 yX11_spring yX11_spring ∈ zk_tb := ⟨zk_ix 637 (by decide +kernel) rfl, zk_ix 638 (by decide +kernel) rfl, zk_ix 639 (by decide +kernel) rfl⟩
theorem zl_X11_spring : zk_lk zY_X11_spring 0 := ⟨zk_ix 640 (by decide +kernel) rfl, zk_ix 62 (by decide +kernel) rfl, by decide +kernel, by decide⟩
theorem zc_L_64 : Cond.methodLink RL 64 yX12_spring ∈ zk_tb ∧ Cond.instanceMethod yX12_spring ∈ zk_tb ∧ Cond.selects RX12 yX12_spring yX12_spring ∈ zk_tb := ⟨zk_ix 1193 (by decide +kernel) rfl, zk_ix 1194 (by decide +kernel) rfl, zk_ix 1195 (by decide +kernel) rfl⟩
theorem zl_X12_spring : zk_lk zY_X12_spring 0 := ⟨zk_ix 1196 (by decide +kernel) rfl, zk_ix 74 (by decide +kernel) rfl, by decide +kernel, by decide⟩
theorem zc_L_65 : Cond.methodLink RL 65 yX11_undo ∈ zk_tb ∧ Cond.instanceMethod yX11_undo ∈ zk_tb ∧ Cond.selects RX11 yX11_undo yX11_undo ∈ zk_tb := ⟨zk_ix 648 (by decide +kernel) rfl, zk_ix 649 (by decide +kernel) rfl, zk_ix 650 (by decide +kernel) rfl⟩
theorem zl_X11_undo : zk_lk zY_X11_undo 0 := ⟨zk_ix 651 (by decide +kernel) rfl, zk_ix 62 (by decide +kernel) rfl, by decide +kernel, by decide⟩
theorem zc_L_68 : Cond.methodLink RL 68 yX12_undo ∈ zk_tb ∧ Cond.instanceMethod yX12_undo ∈ zk_tb ∧ Cond.selects RX12 yX12_undo yX12_undo ∈ zk_tb := ⟨zk_ix 1197 (by decide +kernel) rfl, zk_ix 1198 (by decide +kernel) rfl, zk_ix 1199 (by decide +kernel) rfl⟩
theorem zl_X12_undo : zk_lk zY_X12_undo 0 := ⟨zk_ix 1200 (by decide +kernel) rfl, zk_ix 74 (by decide +kernel) rfl, by decide +kernel, by decide⟩
theorem zc_L_69 : Cond.methodLink RL 69 yX11_most ∈ zk_tb ∧ Cond.instanceMethod yX11_most ∈ zk_tb ∧ Cond.selects RX11 yX11_most yX11_most ∈ zk_tb := ⟨zk_ix 660 (by decide +kernel) rfl, zk_ix 661 (by decide +kernel) rfl, zk_ix 662 (by decide +kernel) rfl⟩
theorem zl_X11_most : zk_lk zY_X11_most 1 := ⟨zk_ix 663 (by decide +kernel) rfl, zk_ix 62 (by decide +kernel) rfl, by decide +kernel, by decide⟩
theorem zc_L_72 : Cond.methodLink RL 72 yX12_most ∈ zk_tb ∧ Cond.instanceMethod yX12_most ∈ zk_tb ∧ Cond.selects RX12 yX12_most yX12_most ∈ zk_tb := ⟨zk_ix 1201 (by decide +kernel) rfl, zk_ix 1202 (by decide +kernel) rfl, zk_ix 1203 (by decide +kernel) rfl⟩
theorem zl_X12_most : zk_lk zY_X12_most 1 := ⟨zk_ix 1204 (by decide +kernel) rfl, zk_ix 74 (by decide +kernel) rfl, by decide +kernel, by decide⟩
theorem zc_L_73 : Cond.methodLink RL 73 yX11_richest ∈ zk_tb ∧ Cond.instanceMethod yX11_richest ∈ zk_tb ∧ Cond.selects RX11 yX11_richest yX11_richest ∈ zk_tb := ⟨zk_ix 693 (by decide +kernel) rfl, zk_ix 694 (by decide +kernel) rfl, zk_ix 695 (by decide +kernel) rfl⟩
theorem zl_X11_richest : zk_lk zY_X11_richest 1 := ⟨zk_ix 696 (by decide +kernel) rfl, zk_ix 62 (by decide +kernel) rfl, by decide +kernel, by decide⟩
theorem zc_L_76 : Cond.methodLink RL 76 yX12_richest ∈ zk_tb ∧ Cond.instanceMethod yX12_richest ∈ zk_tb ∧ Cond.selects RX12 yX12_richest yX12_richest ∈ zk_tb := ⟨zk_ix 1229 (by decide +kernel) rfl, zk_ix 1230 (by decide +kernel) rfl, zk_ix 1231 (by decide +kernel) rfl⟩
theorem zl_X12_richest : zk_lk zY_X12_richest 1 := ⟨zk_ix 1232 (by decide +kernel) rfl, zk_ix 74 (by decide +kernel) rfl, by decide +kernel, by decide⟩
theorem zc_L_77 : Cond.methodLink RL 77 yX11_firstOut ∈ zk_tb ∧ Cond.instanceMethod yX11_firstOut ∈ zk_tb ∧ Cond.selects RX11 yX11_firstOut yX11_firstOut ∈ zk_tb := ⟨zk_ix 705 (by decide +kernel) rfl, zk_ix 706 (by decide +kernel) rfl, zk_ix 707 (by decide +kernel) rfl⟩
theorem zl_X11_firstOut : zk_lk zY_X11_firstOut 2 := ⟨zk_ix 708 (by decide +kernel) rfl, zk_ix 62 (by decide +kernel) rfl, by decide +kernel, by decide⟩
theorem zc_L_80 : Cond.methodLink RL 80 yX12_firstOut ∈ zk_tb ∧ Cond.instanceMethod yX12_firstOut ∈ zk_tb ∧ Cond.selects RX12 yX12_firstOut yX12_firstOut ∈ zk_tb := ⟨zk_ix 1233 (by decide +kernel) rfl, zk_ix 1234 (by decide +kernel) rfl, zk_ix 1235 (by decide +kernel) rfl⟩
theorem zl_X12_firstOut : zk_lk zY_X12_firstOut 2 := ⟨zk_ix 1236 (by decide +kernel) rfl, zk_ix 74 (by decide +kernel) rfl, by decide +kernel, by decide⟩
theorem zc_L_81 : Cond.methodLink RL 81 yX11_holdsFor ∈ zk_tb ∧ Cond.instanceMethod yX11_holdsFor ∈ zk_tb ∧ Cond.selects RX11 yX11_holdsFor yX11_holdsFor ∈ zk_tb := ⟨zk_ix 725 (by decide +kernel) rfl, zk_ix 726 (by decide +kernel) rfl, zk_ix 727 (by decide +kernel) rfl⟩
theorem zl_X11_holdsFor : zk_lk zY_X11_holdsFor 1 := ⟨zk_ix 728 (by decide +kernel) rfl, zk_ix 62 (by decide +kernel) rfl, by decide +kernel, by decide⟩
theorem zc_L_84 : Cond.methodLink RL 84 yX12_holdsFor ∈ zk_tb ∧ Cond.instanceMethod yX12_holdsFor ∈ zk_tb ∧ Cond.selects RX12 yX12_holdsFor yX12_holdsFor ∈ zk_tb := ⟨zk_ix 1241 (by decide +kernel) rfl, zk_ix 1242 (by decide +kernel) rfl, zk_ix 1243 (by decide +kernel) rfl⟩
theorem zl_X12_holdsFor : zk_lk zY_X12_holdsFor 1 := ⟨zk_ix 1244 (by decide +kernel) rfl, zk_ix 74 (by decide +kernel) rfl, by decide +kernel, by decide⟩
theorem zc_L_85 : Cond.methodLink RL 85 yX11_bolts ∈ zk_tb ∧ Cond.instanceMethod yX11_bolts ∈ zk_tb ∧ Cond.selects RX11 yX11_bolts yX11_bolts ∈ zk_tb := ⟨zk_ix 734 (by decide +kernel) rfl, zk_ix 735 (by decide +kernel) rfl, zk_ix 736 (by decide +kernel) rfl⟩
theorem zl_X11_bolts : zk_lk zY_X11_bolts 3 := ⟨zk_ix 737 (by decide +kernel) rfl, zk_ix 62 (by decide +kernel) rfl, by decide +kernel, by decide⟩
theorem zc_L_88 : Cond.methodLink RL 88 yX12_bolts ∈ zk_tb ∧ Cond.instanceMethod yX12_bolts ∈ zk_tb ∧ Cond.selects RX12 yX12_bolts yX12_bolts ∈ zk_tb := ⟨zk_ix 1245 (by decide +kernel) rfl, zk_ix 1246 (by decide +kernel) rfl, zk_ix 1247 (by decide +kernel) rfl⟩
theorem zl_X12_bolts : zk_lk zY_X12_bolts 3 := ⟨zk_ix 1248 (by decide +kernel) rfl, zk_ix 74 (by decide +kernel) rfl, by decide +kernel, by decide⟩
theorem zc_L_89 : Cond.methodLink RL 89 yX11_odds ∈ zk_tb ∧ Cond.instanceMethod yX11_odds ∈ zk_tb ∧ Cond.selects RX11 yX11_odds yX11_odds ∈ zk_tb := ⟨zk_ix 752 (by decide +kernel) rfl, zk_ix 753 (by decide +kernel) rfl, zk_ix 754 (by decide +kernel) rfl⟩
theorem zl_X11_odds : zk_lk zY_X11_odds 4 := ⟨zk_ix 755 (by decide +kernel) rfl, zk_ix 62 (by decide +kernel) rfl, by decide +kernel, by decide⟩
theorem zc_L_93 : Cond.methodLink RL 93 yX12_odds ∈ zk_tb ∧ Cond.instanceMethod yX12_odds ∈ zk_tb ∧ Cond.selects RX12 yX12_odds yX12_odds ∈ zk_tb := ⟨zk_ix 1253 (by decide +kernel) rfl, zk_ix 1254 (by decide +kernel) rfl, zk_ix 1255 (by decide +kernel) rfl⟩
theorem zl_X12_odds : zk_lk zY_X12_odds 4 := ⟨zk_ix 1256 (by decide +kernel) rfl, zk_ix 74 (by decide +kernel) rfl, by decide +kernel, by decide⟩
theorem zc_L_94 : Cond.methodLink RL 94 yX11_orders ∈ zk_tb ∧ Cond.instanceMethod yX11_orders ∈ zk_tb ∧ Cond.selects RX11 yX11_orders yX11_orders ∈ zk_tb := ⟨zk_ix 779 (by decide +kernel) rfl, zk_ix 780 (by decide +kernel) rfl, zk_ix 781 (by decide +kernel) rfl⟩
theorem zl_X11_orders : zk_lk zY_X11_orders 1 := ⟨zk_ix 782 (by decide +kernel) rfl, zk_ix 62 (by decide +kernel) rfl, by decide +kernel, by decide⟩
theorem zc_L_97 : Cond.methodLink RL 97 yX12_orders ∈ zk_tb ∧ Cond.instanceMethod yX12_orders ∈ zk_tb ∧ Cond.selects RX12 yX12_orders yX12_orders ∈ zk_tb := ⟨zk_ix 1264 (by decide +kernel) rfl, zk_ix 1265 (by decide +kernel) rfl, zk_ix 1266 (by decide +kernel) rfl⟩
theorem zl_X12_orders : zk_lk zY_X12_orders 1 := ⟨zk_ix 1267 (by decide +kernel) rfl, zk_ix 74 (by decide +kernel) rfl, by decide +kernel, by decide⟩
theorem zc_L_98 : Cond.methodLink RL 98 yX11_barred ∈ zk_tb ∧ Cond.instanceMethod yX11_barred ∈ zk_tb ∧ Cond.selects RX11 yX11_barred yX11_barred ∈ zk_tb := ⟨zk_ix 808 (by decide +kernel) rfl, zk_ix 809 (by decide +kernel) rfl, zk_ix 810 (by decide +kernel) rfl⟩
theorem zl_X11_barred : zk_lk zY_X11_barred 0 := ⟨zk_ix 811 (by decide +kernel) rfl, zk_ix 62 (by decide +kernel) rfl, by decide +kernel, by decide⟩
theorem zc_L_101 : Cond.methodLink RL 101 yX12_barred ∈ zk_tb ∧ Cond.instanceMethod yX12_barred ∈ zk_tb ∧ Cond.selects RX12 yX12_barred yX12_barred ∈ zk_tb := ⟨zk_ix 1279 (by decide +kernel) rfl, zk_ix 1280 (by decide +kernel) rfl, zk_ix 1281 (by decide +kernel) rfl⟩
theorem zl_X12_barred : zk_lk zY_X12_barred 0 := ⟨zk_ix 1282 (by decide +kernel) rfl, zk_ix 74 (by decide +kernel) rfl, by decide +kernel, by decide⟩
theorem zc_L_102 : Cond.methodLink RL 102 yX11_hoist ∈ zk_tb ∧ Cond.instanceMethod yX11_hoist ∈ zk_tb ∧ Cond.selects RX11 yX11_hoist yX11_hoist ∈ zk_tb := ⟨zk_ix 812 (by decide +kernel) rfl, zk_ix 813 (by decide +kernel) rfl, zk_ix 814 (by decide +kernel) rfl⟩
theorem zl_X11_hoist : zk_lk zY_X11_hoist 2 := ⟨zk_ix 815 (by decide +kernel) rfl, zk_ix 62 (by decide +kernel) rfl, by decide +kernel, by decide⟩
theorem zc_L_105 : Cond.methodLink RL 105 yX12_hoist ∈ zk_tb ∧ Cond.instanceMethod yX12_hoist ∈ zk_tb ∧ Cond.selects RX12 yX12_hoist yX12_hoist ∈ zk_tb := ⟨zk_ix 1283 (by decide +kernel) rfl, zk_ix 1284 (by decide +kernel) rfl, zk_ix 1285 (by decide +kernel) rfl⟩
theorem zl_X12_hoist : zk_lk zY_X12_hoist 2 := ⟨zk_ix 1286 (by decide +kernel) rfl, zk_ix 74 (by decide +kernel) rfl, by decide +kernel, by decide⟩
theorem zc_L_106 : Cond.methodLink RL 106 yX11_test ∈ zk_tb ∧ Cond.instanceMethod yX11_test ∈ zk_tb ∧ Cond.selects RX11 yX11_test yX11_test ∈ zk_tb := ⟨zk_ix 825 (by decide +kernel) rfl, zk_ix 826 (by decide +kernel) rfl, zk_ix 827 (by decide +kernel) rfl⟩
theorem zl_X11_test : zk_lk zY_X11_test 3 := ⟨zk_ix 828 (by decide +kernel) rfl, zk_ix 62 (by decide +kernel) rfl, by decide +kernel, by decide⟩
theorem zc_L_109 : Cond.methodLink RL 109 yX12_test ∈ zk_tb ∧ Cond.instanceMethod yX12_test ∈ zk_tb ∧ Cond.selects RX12 yX12_test yX12_test ∈ zk_tb := ⟨zk_ix 1290 (by decide +kernel) rfl, zk_ix 1291 (by decide +kernel) rfl, zk_ix 1292 (by decide +kernel) rfl⟩
theorem zl_X12_test : zk_lk zY_X12_test 3 := ⟨zk_ix 1293 (by decide +kernel) rfl, zk_ix 74 (by decide +kernel) rfl, by decide +kernel, by decide⟩
theorem zc_L_110 : Cond.methodLink RL 110 yX11_forget ∈ zk_tb ∧ Cond.instanceMethod yX11_forget ∈ zk_tb ∧ Cond.selects RX11 yX11_forget yX11_forget ∈ zk_tb := ⟨zk_ix 833 (by decide +kernel) rfl, zk_ix 834 (by decide +kernel) rfl, zk_ix 835 (by decide +kernel) rfl⟩
theorem zl_X11_forget : zk_lk zY_X11_forget 0 := ⟨zk_ix 836 (by decide +kernel) rfl, zk_ix 62 (by decide +kernel) rfl, by decide +kernel, by decide⟩
theorem zc_L_113 : Cond.methodLink RL 113 yX12_forget ∈ zk_tb ∧ Cond.instanceMethod yX12_forget ∈ zk_tb ∧ Cond.selects RX12 yX12_forget yX12_forget ∈ zk_tb := ⟨zk_ix 1294 (by decide +kernel) rfl, zk_ix 1295 (by decide +kernel) rfl, zk_ix 1296 (by decide +kernel) rfl⟩
theorem zl_X12_forget : zk_lk zY_X12_forget 0 := ⟨zk_ix 1297 (by decide +kernel) rfl, zk_ix 74 (by decide +kernel) rfl, by decide +kernel, by decide⟩
theorem zc_L_114 : Cond.methodLink RL 114 yX11_mayBe ∈ zk_tb ∧ Cond.instanceMethod yX11_mayBe ∈ zk_tb ∧ Cond.selects RX11 yX11_mayBe yX11_mayBe ∈ zk_tb := ⟨zk_ix 837 (by decide +kernel) rfl, zk_ix 838 (by decide +kernel) rfl, zk_ix 839 (by decide +kernel) rfl⟩
theorem zl_X11_mayBe : zk_lk zY_X11_mayBe 0 := ⟨zk_ix 840 (by decide +kernel) rfl, zk_ix 62 (by decide +kernel) rfl, by decide +kernel, by decide⟩
theorem zc_L_117 : Cond.methodLink RL 117 yX12_mayBe ∈ zk_tb ∧ Cond.instanceMethod yX12_mayBe ∈ zk_tb ∧ Cond.selects RX12 yX12_mayBe yX12_mayBe ∈ zk_tb := ⟨zk_ix 1298 (by decide +kernel) rfl, zk_ix 1299 (by decide +kernel) rfl, zk_ix 1300 (by decide +kernel) rfl⟩
theorem zl_X12_mayBe : zk_lk zY_X12_mayBe 0 := ⟨zk_ix 1301 (by decide +kernel) rfl, zk_ix 74 (by decide +kernel) rfl, by decide +kernel, by decide⟩
theorem zc_L_118 : Cond.methodLink RL 118 yX11_ask ∈ zk_tb ∧ Cond.instanceMethod yX11_ask ∈ zk_tb ∧ Cond.selects RX11 yX11_ask yX11_ask ∈ zk_tb := ⟨zk_ix 852 (by decide +kernel) rfl, zk_ix 853 (by decide +kernel) rfl, zk_ix 854 (by decide +kernel) rfl⟩
theorem zl_X11_ask : zk_lk zY_X11_ask 1 := ⟨zk_ix 855 (by decide +kernel) rfl, zk_ix 62 (by decide +kernel) rfl, by decide +kernel, by decide⟩
theorem zc_L_121 : Cond.methodLink RL 121 yX12_ask ∈ zk_tb ∧ Cond.instanceMethod yX12_ask ∈ zk_tb ∧ Cond.selects RX12 yX12_ask yX12_ask ∈ zk_tb := ⟨zk_ix 1310 (by decide +kernel) rfl, zk_ix 1311 (by decide +kernel) rfl, zk_ix 1312 (by decide +kernel) rfl⟩
theorem zl_X12_ask : zk_lk zY_X12_ask 1 := ⟨zk_ix 1313 (by decide +kernel) rfl, zk_ix 74 (by decide +kernel) rfl, by decide +kernel, by decide⟩
theorem zc_L_122 : Cond.methodLink RL 122 yX11_rate ∈ zk_tb ∧ Cond.instanceMethod yX11_rate ∈ zk_tb ∧ Cond.selects RX11 yX11_rate yX11_rate ∈ zk_tb := ⟨zk_ix 866 (by decide +kernel) rfl, zk_ix 867 (by decide +kernel) rfl, zk_ix 868 (by decide +kernel) rfl⟩
theorem zl_X11_rate : zk_lk zY_X11_rate 2 := ⟨zk_ix 869 (by decide +kernel) rfl, zk_ix 62 (by decide +kernel) rfl, by decide +kernel, by decide⟩
theorem zc_L_125 : Cond.methodLink RL 125 yX12_rate ∈ zk_tb ∧ Cond.instanceMethod yX12_rate ∈ zk_tb ∧ Cond.selects RX12 yX12_rate yX12_rate ∈ zk_tb := ⟨zk_ix 1314 (by decide +kernel) rfl, zk_ix 1315 (by decide +kernel) rfl, zk_ix 1316 (by decide +kernel) rfl⟩
theorem zl_X12_rate : zk_lk zY_X12_rate 2 := ⟨zk_ix 1317 (by decide +kernel) rfl, zk_ix 74 (by decide +kernel) rfl, by decide +kernel, by decide⟩
theorem zc_L_126 : Cond.methodLink RL 126 yX11_keep ∈ zk_tb ∧ Cond.instanceMethod yX11_keep ∈ zk_tb ∧ Cond.selects RX11 yX11_keep yX11_keep ∈ zk_tb := ⟨zk_ix 900 (by decide +kernel) rfl, zk_ix 901 (by decide +kernel) rfl, zk_ix 902 (by decide +kernel) rfl⟩
theorem zl_X11_keep : zk_lk zY_X11_keep 1 := ⟨zk_ix 903 (by decide +kernel) rfl, zk_ix 62 (by decide +kernel) rfl, by decide +kernel, by decide⟩
theorem zc_L_129 : Cond.methodLink RL 129 yX12_keep ∈ zk_tb ∧ Cond.instanceMethod yX12_keep ∈ zk_tb ∧ Cond.selects RX12 yX12_keep yX12_keep ∈ zk_tb := ⟨zk_ix 1336 (by decide +kernel) rfl, zk_ix 1337 (by decide +kernel) rfl, zk_ix 1338 (by decide +kernel) rfl⟩
theorem zl_X12_keep : zk_lk zY_X12_keep 1 := ⟨zk_ix 1339 (by decide +kernel) rfl, zk_ix 74 (by decide +kernel) rfl, by decide +kernel, by decide⟩
theorem zc_L_130 : Cond.methodLink RL 130 yX11_back ∈ zk_tb ∧ Cond.instanceMethod yX11_back ∈ zk_tb ∧ Cond.selects RX11 yX11_back yX11_back ∈ zk_tb := ⟨zk_ix 909 (by decide +kernel) rfl, zk_ix 910 (by decide +kernel) rfl, zk_ix 911 (by decide +kernel) rfl⟩
theorem zl_X11_back : zk_lk zY_X11_back 1 := ⟨zk_ix 912 (by decide +kernel) rfl, zk_ix 62 (by decide +kernel) rfl, by decide +kernel, by decide⟩
theorem zc_L_133 : Cond.methodLink RL 133 yX12_back ∈ zk_tb ∧ Cond.instanceMethod yX12_back ∈ zk_tb ∧ Cond.selects RX12 yX12_back yX12_back ∈ zk_tb := ⟨zk_ix 1340 (by decide +kernel) rfl, zk_ix 1341 (by decide +kernel) rfl, zk_ix 1342 (by decide +kernel) rfl⟩
theorem zl_X12_back : zk_lk zY_X12_back 1 := ⟨zk_ix 1343 (by decide +kernel) rfl, zk_ix 74 (by decide +kernel) rfl, by decide +kernel, by decide⟩
theorem zc_L_134 : Cond.methodLink RL 134 yX11_count ∈ zk_tb ∧ Cond.instanceMethod yX11_count ∈ zk_tb ∧ Cond.selects RX11 yX11_count yX11_count ∈ zk_tb := ⟨zk_ix 918 (by decide +kernel) rfl, zk_ix 919 (by decide +kernel) rfl, zk_ix 920 (by decide +kernel) rfl⟩
theorem zl_X11_count : zk_lk zY_X11_count 1 := ⟨zk_ix 921 (by decide +kernel) rfl, zk_ix 62 (by decide +kernel) rfl, by decide +kernel, by decide⟩
theorem zc_L_137 : Cond.methodLink RL 137 yX12_count ∈ zk_tb ∧ Cond.instanceMethod yX12_count ∈ zk_tb ∧ Cond.selects RX12 yX12_count yX12_count ∈ zk_tb := ⟨zk_ix 1344 (by decide +kernel) rfl, zk_ix 1345 (by decide +kernel) rfl, zk_ix 1346 (by decide +kernel) rfl⟩
theorem zl_X12_count : zk_lk zY_X12_count 1 := ⟨zk_ix 1347 (by decide +kernel) rfl, zk_ix 74 (by decide +kernel) rfl, by decide +kernel, by decide⟩
theorem zc_L_138 : Cond.methodLink RL 138 yX11_trace ∈ zk_tb ∧ Cond.instanceMethod yX11_trace ∈ zk_tb ∧ Cond.selects RX11 yX11_trace yX11_trace ∈ zk_tb := ⟨zk_ix 922 (by decide +kernel) rfl, zk_ix 923 (by decide +kernel) rfl, zk_ix 924 (by decide +kernel) rfl⟩
theorem zl_X11_trace : zk_lk zY_X11_trace 0 := ⟨zk_ix 925 (by decide +kernel) rfl, zk_ix 62 (by decide +kernel) rfl, by decide +kernel, by decide⟩
theorem zc_L_142 : Cond.methodLink RL 142 yX12_trace ∈ zk_tb ∧ Cond.instanceMethod yX12_trace ∈ zk_tb ∧ Cond.selects RX12 yX12_trace yX12_trace ∈ zk_tb := ⟨zk_ix 1348 (by decide +kernel) rfl, zk_ix 1349 (by decide +kernel) rfl, zk_ix 1350 (by decide +kernel) rfl⟩
theorem zl_X12_trace : zk_lk zY_X12_trace 0 := ⟨zk_ix 1351 (by decide +kernel) rfl, zk_ix 74 (by decide +kernel) rfl, by decide +kernel, by decide⟩
theorem zc_L_9 : Cond.methodLink RL 9 yX11_init ∈ zk_tb ∧ Cond.instanceMethod yX11_init ∈ zk_tb := ⟨zk_ix 80 (by decide +kernel) rfl, zk_ix 81 (by decide +kernel) rfl⟩
theorem zc_L_12 : Cond.methodLink RL 12 yX12_init ∈ zk_tb ∧ Cond.instanceMethod yX12_init ∈ zk_tb := ⟨zk_ix 928 (by decide +kernel) rfl, zk_ix 929 (by decide +kernel) rfl⟩
def lw_P (b : Addr) (xs : List Int32) (args : Array Value) (s : State) : Prop := args = #[.ref b] ∧ s.IntsAt b xs ∧ xs.length ≤ 320 ∧ (Jvm.Cond.and given_1 narrow_1).before args s = true
def lw_Q (_ : Array Value) (s : State) (o : Outcome) (t : State) : Prop := o = .returned (some (.int 1)) ∧ Framed s o t [] 600000 7302249
def lw_Z (below : List Frame) (a : Array Value) (s : State) : State → Prop := fun t => ∃ o, t.status = .running ∧ Ended t below o ∧ lw_Q a s o t
/-- the law's own end, with 1 on the stack, nothing written that was there before, its room as the claim has it -/
theorem lw_ret {p : Program} {l : Launch} {e : Env} {s : State} {m : MethodId} {below : List Frame} {meth : Method} {c : Code} {b : Nat} (hx : p.tables.exec = Jvm.exec) (hb : c.code = code) (hr : meth.sig.returnType = ret) (hlocks : meth.locks = false) {pc : Nat} {H : Heap} {ls : Array Slot} (hdg : decode code pc = .ok (.ireturn, 1)) : W p l e room_1 s m #[Value.ref b] below meth c H [] 600000 7302249 (lw_Z below #[Value.ref b] s) (F0 m pc ls [.int 1]) := by
  intro T hT X
  obtain ⟨fs, hret, hrun, hended, hW, hframe⟩ := X.leave (v := some (.int 1)) (hlocks := hlocks) (fun h => by rw [hr] at h; cases h)
  have hmeth' : T.vm.method? m = some meth := X.method'
  refine ⟨T.setFrames fs, ?_, .returned (some (.int 1)), hrun, hended, rfl, ⟨_, rfl⟩, hW, hframe⟩
  jvm_step X.here [X.here.top, hx, hb, hdg, hmeth', hr, ret, narrow_b1]
  (try refine ⟨rfl, ?_⟩); (try refine ⟨rfl, ?_⟩)
  first | (intro acts; rw [hret _ acts rfl rfl rfl]) | rw [hret _ _ rfl rfl rfl]
  exact Steps.refl _
/-- what holds at the law's entry: the machine, the code, the tables' words (any of lw_tbl by 'hts w (by decide +kernel)'), the script of L ints xs at the cell b, what the Statement gives of the start (any of its parts by flat_of_before) -/
def lw_At (p : Program) (s : State) (m : MethodId) (meth : Method) (c : Code) (b L : Nat) (xs : Nat → Int32) : Prop :=
  p.tables.exec = Jvm.exec ∧ c.code = code ∧ meth.sig.returnType = ret ∧ c.maxLocals = 4 ∧ s.vm.findClass R_law = some m.cls ∧ (∀ w ∈ lw_tbl, w.before #[Value.ref b] s = true) ∧ va_X b L xs s s.heap ∧ b < s.heap.size ∧ meth.locks = false ∧ (Jvm.Cond.and given_1 narrow_1).before #[Value.ref b] s = true
set_option maxHeartbeats 8000000 in
set_option maxRecDepth 100000 in
theorem law_switch {p : Program} {l : Launch} {e : Env} {s : State} {m : MethodId} {below : List Frame} {meth : Method} {c : Code} {b L : Nat} {xs : Nat → Int32} (hL : L ≤ 320) (C0 : lw_At p s m meth c b L xs) {D : va_G} {κ : Nat → ClassId} (hK : va_K D vwCl (zk_tys κ) s) {x3 sw : Int32} {y z : zkM} {α β : Nat → Nat} {H : Heap} {locs : List Loc} (hR : zRel y z) (L9 : lw_2 zSX zSM D κ s α β y z H locs) {ls : Array Slot} (hl : lv_has ls 4 [(0, .ref b), (1, .ref (α 0)), (2, .ref (β 0)), (3, .int x3)]) (hin1 : vp_in (x3 + 1) L) (hin2 : vp_in (x3 + 2) L) (hin3 : vp_in (x3 + 3) L) (hin4 : vp_in (x3 + 4) L)
    (nxt : ∀ (y z : zkM) (α β : Nat → Nat) (H : Heap) (locs : List Loc), zRel y z → lw_2 zSX zSM D κ s α β y z H locs → lv_has ls 4 [(0, .ref b), (1, .ref (α 0)), (2, .ref (β 0)), (3, .int x3)] → W p l e room_1 s m #[Value.ref b] below meth c H locs 84 2370 (lw_Z below #[Value.ref b] s) (F0 m 987 ls [])) :
    W p l e room_1 s m #[Value.ref b] below meth c H locs 84 2370 (lw_Z below #[Value.ref b] s) (F0 m 32 ls [.int sw]) := by
  obtain ⟨hx, hb, hr, hml, hown, hts, hX, hbl, hlocks, hgv⟩ := id C0
  have hbA : ¬ lw_A0 s b := Nat.not_le.mpr hbl
  have hcs : 84 ≤ room_1.cells ∧ 2370 ≤ room_1.slots := by decide
  rcases Decidable.em (sw = (0 : Int32)) with c0 | c0
  · refine lv_tableIn (off := 140) (tgt := 172) hx hb dL_law_32 (by rw [c0]; decide) (by rw [c0]; decide) (by rw [c0]; decide) rfl ?_
    obtain ⟨v, y1, z1, hsX, hsM, hR1⟩ := pr_type hR (xs (x3 + 1).toNatClampNeg)
    refine lv_aload_n hx hb dL_law_172 rfl (lv_at hl 1 rfl) ?_
    refine lv_aload_n hx hb dL_law_173 rfl (lv_at hl 0 rfl) ?_
    refine lv_iload_n hx hb dL_law_174 rfl (lv_at hl 3 rfl) ?_
    refine lv_iconst (v := 1) hx hb dL_law_175 zki_1 ?_
    refine lv_iadd hx hb dL_law_176 ?_
    refine va_sld hx hb hX hbl hbA L9.2.2.2.2.2.1 hin1 dL_law_177 ?_
    refine lw_call 11 [.int (xs (x3 + 1).toNatClampNeg)] hx hb hml hown hts hl.1 dL_law_178 zl_X11_type zc_L_13 rfl rfl zk_ok11 rfl (sX_type_ok hsX) (by decide) (Nat.le_of_ble_eq_true rfl) hK hcs rfl L9 (fun H1 locs1 L9 => ?_)
    refine lv_aload_n hx hb dL_law_181 rfl (lv_at hl 2 rfl) ?_
    refine lv_aload_n hx hb dL_law_182 rfl (lv_at hl 0 rfl) ?_
    refine lv_iload_n hx hb dL_law_183 rfl (lv_at hl 3 rfl) ?_
    refine lv_iconst (v := 1) hx hb dL_law_184 zki_1 ?_
    refine lv_iadd hx hb dL_law_185 ?_
    refine va_sld hx hb hX hbl hbA L9.2.2.2.2.2.1 hin1 dL_law_186 ?_
    refine lw_call 12 [.int (xs (x3 + 1).toNatClampNeg)] hx hb hml hown hts hl.1 dL_law_187 zl_X12_type zc_L_17 rfl rfl zk_ok12 rfl (sM_type_ok hsM) (by decide) (Nat.le_of_ble_eq_true rfl) hK hcs rfl L9.swap (fun H1 locs1 L9 => ?_)
    have L9 := L9.swap
    refine lv_icmp_eq (tgt := 987) hx hb dL_law_190 (by decide) (fun _ => ?_) (fun z => absurd rfl z)
    exact nxt _ _ _ _ _ _ hR1 L9 hl
  rcases Decidable.em (sw = (1 : Int32)) with c1 | c1
  · refine lv_tableIn (off := 163) (tgt := 195) hx hb dL_law_32 (by rw [c1]; decide) (by rw [c1]; decide) (by rw [c1]; decide) rfl ?_
    obtain ⟨v, y1, z1, hsX, hsM, hR1⟩ := pr_clear hR
    refine lv_aload_n hx hb dL_law_195 rfl (lv_at hl 1 rfl) ?_
    refine lw_call 11 [] hx hb hml hown hts hl.1 dL_law_196 zl_X11_clear zc_L_18 rfl rfl zk_ok11 rfl (sX_clear_ok hsX) (by decide) (Nat.le_of_ble_eq_true rfl) hK hcs rfl L9 (fun H1 locs1 L9 => ?_)
    refine lv_aload_n hx hb dL_law_199 rfl (lv_at hl 2 rfl) ?_
    refine lw_call 12 [] hx hb hml hown hts hl.1 dL_law_200 zl_X12_clear zc_L_22 rfl rfl zk_ok12 rfl (sM_clear_ok hsM) (by decide) (Nat.le_of_ble_eq_true rfl) hK hcs rfl L9.swap (fun H1 locs1 L9 => ?_)
    have L9 := L9.swap
    refine lv_icmp_eq (tgt := 987) hx hb dL_law_203 (by decide) (fun _ => ?_) (fun z => absurd rfl z)
    exact nxt _ _ _ _ _ _ hR1 L9 hl
  rcases Decidable.em (sw = (2 : Int32)) with c2 | c2
  · refine lv_tableIn (off := 176) (tgt := 208) hx hb dL_law_32 (by rw [c2]; decide) (by rw [c2]; decide) (by rw [c2]; decide) rfl ?_
    obtain ⟨v, y1, z1, hsX, hsM, hR1⟩ := pr_tree hR
    refine lv_aload_n hx hb dL_law_208 rfl (lv_at hl 1 rfl) ?_
    refine lw_callT hx hb hml hown hts hl.1 dL_law_209 zl_X11_tree zc_L_23 (sX_tree_ok hsX) (by decide) (Nat.le_of_ble_eq_true rfl) hK hcs (fun _ => rfl) L9 (fun α H1 locs1 L9 h1 => ?_)
    rw [← h1] at hl
    refine lv_aload_n hx hb dL_law_212 rfl (lv_at hl 2 rfl) ?_
    refine lw_call 12 [] hx hb hml hown hts hl.1 dL_law_213 zl_X12_tree zc_L_26 rfl rfl zk_ok12 rfl (sM_tree_ok hsM) (by decide) (Nat.le_of_ble_eq_true rfl) hK hcs rfl L9.swap (fun H1 locs1 L9 => ?_)
    have L9 := L9.swap
    refine lv_icmp_eq (tgt := 987) hx hb dL_law_216 (by decide) (fun _ => ?_) (fun z => absurd rfl z)
    exact nxt _ _ _ _ _ _ hR1 L9 hl
  rcases Decidable.em (sw = (3 : Int32)) with c3 | c3
  · refine lv_tableIn (off := 189) (tgt := 221) hx hb dL_law_32 (by rw [c3]; decide) (by rw [c3]; decide) (by rw [c3]; decide) rfl ?_
    obtain ⟨v, y1, z1, hsX, hsM, hR1⟩ := pr_bough hR (xs (x3 + 1).toNatClampNeg) (xs (x3 + 2).toNatClampNeg)
    refine lv_aload_n hx hb dL_law_221 rfl (lv_at hl 1 rfl) ?_
    refine lv_aload_n hx hb dL_law_222 rfl (lv_at hl 0 rfl) ?_
    refine lv_iload_n hx hb dL_law_223 rfl (lv_at hl 3 rfl) ?_
    refine lv_iconst (v := 1) hx hb dL_law_224 zki_1 ?_
    refine lv_iadd hx hb dL_law_225 ?_
    refine va_sld hx hb hX hbl hbA L9.2.2.2.2.2.1 hin1 dL_law_226 ?_
    refine lv_aload_n hx hb dL_law_227 rfl (lv_at hl 0 rfl) ?_
    refine lv_iload_n hx hb dL_law_228 rfl (lv_at hl 3 rfl) ?_
    refine lv_iconst (v := 2) hx hb dL_law_229 zki_2 ?_
    refine lv_iadd hx hb dL_law_230 ?_
    refine va_sld hx hb hX hbl hbA L9.2.2.2.2.2.1 hin2 dL_law_231 ?_
    refine lw_call 11 [.int (xs (x3 + 1).toNatClampNeg), .int (xs (x3 + 2).toNatClampNeg)] hx hb hml hown hts hl.1 dL_law_232 zl_X11_bough zc_L_27 rfl rfl zk_ok11 rfl (sX_bough_ok hsX) (by decide) (Nat.le_of_ble_eq_true rfl) hK hcs rfl L9 (fun H1 locs1 L9 => ?_)
    refine lv_aload_n hx hb dL_law_235 rfl (lv_at hl 2 rfl) ?_
    refine lv_aload_n hx hb dL_law_236 rfl (lv_at hl 0 rfl) ?_
    refine lv_iload_n hx hb dL_law_237 rfl (lv_at hl 3 rfl) ?_
    refine lv_iconst (v := 1) hx hb dL_law_238 zki_1 ?_
    refine lv_iadd hx hb dL_law_239 ?_
    refine va_sld hx hb hX hbl hbA L9.2.2.2.2.2.1 hin1 dL_law_240 ?_
    refine lv_aload_n hx hb dL_law_241 rfl (lv_at hl 0 rfl) ?_
    refine lv_iload_n hx hb dL_law_242 rfl (lv_at hl 3 rfl) ?_
    refine lv_iconst (v := 2) hx hb dL_law_243 zki_2 ?_
    refine lv_iadd hx hb dL_law_244 ?_
    refine va_sld hx hb hX hbl hbA L9.2.2.2.2.2.1 hin2 dL_law_245 ?_
    refine lw_call 12 [.int (xs (x3 + 1).toNatClampNeg), .int (xs (x3 + 2).toNatClampNeg)] hx hb hml hown hts hl.1 dL_law_246 zl_X12_bough zc_L_31 rfl rfl zk_ok12 rfl (sM_bough_ok hsM) (by decide) (Nat.le_of_ble_eq_true rfl) hK hcs rfl L9.swap (fun H1 locs1 L9 => ?_)
    have L9 := L9.swap
    refine lv_icmp_eq (tgt := 987) hx hb dL_law_249 (by decide) (fun _ => ?_) (fun z => absurd rfl z)
    exact nxt _ _ _ _ _ _ hR1 L9 hl
  rcases Decidable.em (sw = (4 : Int32)) with c4 | c4
  · refine lv_tableIn (off := 222) (tgt := 254) hx hb dL_law_32 (by rw [c4]; decide) (by rw [c4]; decide) (by rw [c4]; decide) rfl ?_
    obtain ⟨v, y1, z1, hsX, hsM, hR1⟩ := pr_plank hR (xs (x3 + 1).toNatClampNeg) (xs (x3 + 2).toNatClampNeg)
    refine lv_aload_n hx hb dL_law_254 rfl (lv_at hl 1 rfl) ?_
    refine lv_aload_n hx hb dL_law_255 rfl (lv_at hl 0 rfl) ?_
    refine lv_iload_n hx hb dL_law_256 rfl (lv_at hl 3 rfl) ?_
    refine lv_iconst (v := 1) hx hb dL_law_257 zki_1 ?_
    refine lv_iadd hx hb dL_law_258 ?_
    refine va_sld hx hb hX hbl hbA L9.2.2.2.2.2.1 hin1 dL_law_259 ?_
    refine lv_aload_n hx hb dL_law_260 rfl (lv_at hl 0 rfl) ?_
    refine lv_iload_n hx hb dL_law_261 rfl (lv_at hl 3 rfl) ?_
    refine lv_iconst (v := 2) hx hb dL_law_262 zki_2 ?_
    refine lv_iadd hx hb dL_law_263 ?_
    refine va_sld hx hb hX hbl hbA L9.2.2.2.2.2.1 hin2 dL_law_264 ?_
    refine lw_call 11 [.int (xs (x3 + 1).toNatClampNeg), .int (xs (x3 + 2).toNatClampNeg)] hx hb hml hown hts hl.1 dL_law_265 zl_X11_plank zc_L_32 rfl rfl zk_ok11 rfl (sX_plank_ok hsX) (by decide) (Nat.le_of_ble_eq_true rfl) hK hcs rfl L9 (fun H1 locs1 L9 => ?_)
    refine lv_aload_n hx hb dL_law_268 rfl (lv_at hl 2 rfl) ?_
    refine lv_aload_n hx hb dL_law_269 rfl (lv_at hl 0 rfl) ?_
    refine lv_iload_n hx hb dL_law_270 rfl (lv_at hl 3 rfl) ?_
    refine lv_iconst (v := 1) hx hb dL_law_271 zki_1 ?_
    refine lv_iadd hx hb dL_law_272 ?_
    refine va_sld hx hb hX hbl hbA L9.2.2.2.2.2.1 hin1 dL_law_273 ?_
    refine lv_aload_n hx hb dL_law_274 rfl (lv_at hl 0 rfl) ?_
    refine lv_iload_n hx hb dL_law_275 rfl (lv_at hl 3 rfl) ?_
    refine lv_iconst (v := 2) hx hb dL_law_276 zki_2 ?_
    refine lv_iadd hx hb dL_law_277 ?_
    refine va_sld hx hb hX hbl hbA L9.2.2.2.2.2.1 hin2 dL_law_278 ?_
    refine lw_call 12 [.int (xs (x3 + 1).toNatClampNeg), .int (xs (x3 + 2).toNatClampNeg)] hx hb hml hown hts hl.1 dL_law_279 zl_X12_plank zc_L_35 rfl rfl zk_ok12 rfl (sM_plank_ok hsM) (by decide) (Nat.le_of_ble_eq_true rfl) hK hcs rfl L9.swap (fun H1 locs1 L9 => ?_)
    have L9 := L9.swap
    refine lv_icmp_eq (tgt := 987) hx hb dL_law_282 (by decide) (fun _ => ?_) (fun z => absurd rfl z)
    exact nxt _ _ _ _ _ _ hR1 L9 hl
  rcases Decidable.em (sw = (5 : Int32)) with c5 | c5
  · refine lv_tableIn (off := 255) (tgt := 287) hx hb dL_law_32 (by rw [c5]; decide) (by rw [c5]; decide) (by rw [c5]; decide) rfl ?_
    obtain ⟨v, y1, z1, hsX, hsM, hR1⟩ := pr_end hR (xs (x3 + 1).toNatClampNeg) (xs (x3 + 2).toNatClampNeg) (xs (x3 + 3).toNatClampNeg)
    refine lv_aload_n hx hb dL_law_287 rfl (lv_at hl 1 rfl) ?_
    refine lv_aload_n hx hb dL_law_288 rfl (lv_at hl 0 rfl) ?_
    refine lv_iload_n hx hb dL_law_289 rfl (lv_at hl 3 rfl) ?_
    refine lv_iconst (v := 1) hx hb dL_law_290 zki_1 ?_
    refine lv_iadd hx hb dL_law_291 ?_
    refine va_sld hx hb hX hbl hbA L9.2.2.2.2.2.1 hin1 dL_law_292 ?_
    refine lv_aload_n hx hb dL_law_293 rfl (lv_at hl 0 rfl) ?_
    refine lv_iload_n hx hb dL_law_294 rfl (lv_at hl 3 rfl) ?_
    refine lv_iconst (v := 2) hx hb dL_law_295 zki_2 ?_
    refine lv_iadd hx hb dL_law_296 ?_
    refine va_sld hx hb hX hbl hbA L9.2.2.2.2.2.1 hin2 dL_law_297 ?_
    refine lv_aload_n hx hb dL_law_298 rfl (lv_at hl 0 rfl) ?_
    refine lv_iload_n hx hb dL_law_299 rfl (lv_at hl 3 rfl) ?_
    refine lv_iconst (v := 3) hx hb dL_law_300 zki_3 ?_
    refine lv_iadd hx hb dL_law_301 ?_
    refine va_sld hx hb hX hbl hbA L9.2.2.2.2.2.1 hin3 dL_law_302 ?_
    refine lw_call 11 [.int (xs (x3 + 1).toNatClampNeg), .int (xs (x3 + 2).toNatClampNeg), .int (xs (x3 + 3).toNatClampNeg)] hx hb hml hown hts hl.1 dL_law_303 zl_X11_end zc_L_36 rfl rfl zk_ok11 rfl (sX_end_ok hsX) (by decide) (Nat.le_of_ble_eq_true rfl) hK hcs rfl L9 (fun H1 locs1 L9 => ?_)
    refine lv_aload_n hx hb dL_law_306 rfl (lv_at hl 2 rfl) ?_
    refine lv_aload_n hx hb dL_law_307 rfl (lv_at hl 0 rfl) ?_
    refine lv_iload_n hx hb dL_law_308 rfl (lv_at hl 3 rfl) ?_
    refine lv_iconst (v := 1) hx hb dL_law_309 zki_1 ?_
    refine lv_iadd hx hb dL_law_310 ?_
    refine va_sld hx hb hX hbl hbA L9.2.2.2.2.2.1 hin1 dL_law_311 ?_
    refine lv_aload_n hx hb dL_law_312 rfl (lv_at hl 0 rfl) ?_
    refine lv_iload_n hx hb dL_law_313 rfl (lv_at hl 3 rfl) ?_
    refine lv_iconst (v := 2) hx hb dL_law_314 zki_2 ?_
    refine lv_iadd hx hb dL_law_315 ?_
    refine va_sld hx hb hX hbl hbA L9.2.2.2.2.2.1 hin2 dL_law_316 ?_
    refine lv_aload_n hx hb dL_law_317 rfl (lv_at hl 0 rfl) ?_
    refine lv_iload_n hx hb dL_law_318 rfl (lv_at hl 3 rfl) ?_
    refine lv_iconst (v := 3) hx hb dL_law_319 zki_3 ?_
    refine lv_iadd hx hb dL_law_320 ?_
    refine va_sld hx hb hX hbl hbA L9.2.2.2.2.2.1 hin3 dL_law_321 ?_
    refine lw_call 12 [.int (xs (x3 + 1).toNatClampNeg), .int (xs (x3 + 2).toNatClampNeg), .int (xs (x3 + 3).toNatClampNeg)] hx hb hml hown hts hl.1 dL_law_322 zl_X12_end zc_L_40 rfl rfl zk_ok12 rfl (sM_end_ok hsM) (by decide) (Nat.le_of_ble_eq_true rfl) hK hcs rfl L9.swap (fun H1 locs1 L9 => ?_)
    have L9 := L9.swap
    refine lv_icmp_eq (tgt := 987) hx hb dL_law_325 (by decide) (fun _ => ?_) (fun z => absurd rfl z)
    exact nxt _ _ _ _ _ _ hR1 L9 hl
  rcases Decidable.em (sw = (6 : Int32)) with c6 | c6
  · refine lv_tableIn (off := 298) (tgt := 330) hx hb dL_law_32 (by rw [c6]; decide) (by rw [c6]; decide) (by rw [c6]; decide) rfl ?_
    obtain ⟨v, y1, z1, hsX, hsM, hR1⟩ := pr_child hR (xs (x3 + 1).toNatClampNeg) (xs (x3 + 2).toNatClampNeg)
    refine lv_aload_n hx hb dL_law_330 rfl (lv_at hl 1 rfl) ?_
    refine lv_aload_n hx hb dL_law_331 rfl (lv_at hl 0 rfl) ?_
    refine lv_iload_n hx hb dL_law_332 rfl (lv_at hl 3 rfl) ?_
    refine lv_iconst (v := 1) hx hb dL_law_333 zki_1 ?_
    refine lv_iadd hx hb dL_law_334 ?_
    refine va_sld hx hb hX hbl hbA L9.2.2.2.2.2.1 hin1 dL_law_335 ?_
    refine lv_aload_n hx hb dL_law_336 rfl (lv_at hl 0 rfl) ?_
    refine lv_iload_n hx hb dL_law_337 rfl (lv_at hl 3 rfl) ?_
    refine lv_iconst (v := 2) hx hb dL_law_338 zki_2 ?_
    refine lv_iadd hx hb dL_law_339 ?_
    refine va_sld hx hb hX hbl hbA L9.2.2.2.2.2.1 hin2 dL_law_340 ?_
    refine lw_call 11 [.int (xs (x3 + 1).toNatClampNeg), .int (xs (x3 + 2).toNatClampNeg)] hx hb hml hown hts hl.1 dL_law_341 zl_X11_child zc_L_41 rfl rfl zk_ok11 rfl (sX_child_ok hsX) (by decide) (Nat.le_of_ble_eq_true rfl) hK hcs rfl L9 (fun H1 locs1 L9 => ?_)
    refine lv_aload_n hx hb dL_law_344 rfl (lv_at hl 2 rfl) ?_
    refine lv_aload_n hx hb dL_law_345 rfl (lv_at hl 0 rfl) ?_
    refine lv_iload_n hx hb dL_law_346 rfl (lv_at hl 3 rfl) ?_
    refine lv_iconst (v := 1) hx hb dL_law_347 zki_1 ?_
    refine lv_iadd hx hb dL_law_348 ?_
    refine va_sld hx hb hX hbl hbA L9.2.2.2.2.2.1 hin1 dL_law_349 ?_
    refine lv_aload_n hx hb dL_law_350 rfl (lv_at hl 0 rfl) ?_
    refine lv_iload_n hx hb dL_law_351 rfl (lv_at hl 3 rfl) ?_
    refine lv_iconst (v := 2) hx hb dL_law_352 zki_2 ?_
    refine lv_iadd hx hb dL_law_353 ?_
    refine va_sld hx hb hX hbl hbA L9.2.2.2.2.2.1 hin2 dL_law_354 ?_
    refine lw_call 12 [.int (xs (x3 + 1).toNatClampNeg), .int (xs (x3 + 2).toNatClampNeg)] hx hb hml hown hts hl.1 dL_law_355 zl_X12_child zc_L_44 rfl rfl zk_ok12 rfl (sM_child_ok hsM) (by decide) (Nat.le_of_ble_eq_true rfl) hK hcs rfl L9.swap (fun H1 locs1 L9 => ?_)
    have L9 := L9.swap
    refine lv_icmp_eq (tgt := 987) hx hb dL_law_358 (by decide) (fun _ => ?_) (fun z => absurd rfl z)
    exact nxt _ _ _ _ _ _ hR1 L9 hl
  rcases Decidable.em (sw = (7 : Int32)) with c7 | c7
  · refine lv_tableIn (off := 331) (tgt := 363) hx hb dL_law_32 (by rw [c7]; decide) (by rw [c7]; decide) (by rw [c7]; decide) rfl ?_
    obtain ⟨v, y1, z1, hsX, hsM, hR1⟩ := pr_now hR (xs (x3 + 1).toNatClampNeg)
    refine lv_aload_n hx hb dL_law_363 rfl (lv_at hl 1 rfl) ?_
    refine lv_aload_n hx hb dL_law_364 rfl (lv_at hl 0 rfl) ?_
    refine lv_iload_n hx hb dL_law_365 rfl (lv_at hl 3 rfl) ?_
    refine lv_iconst (v := 1) hx hb dL_law_366 zki_1 ?_
    refine lv_iadd hx hb dL_law_367 ?_
    refine va_sld hx hb hX hbl hbA L9.2.2.2.2.2.1 hin1 dL_law_368 ?_
    refine lw_call 11 [.int (xs (x3 + 1).toNatClampNeg)] hx hb hml hown hts hl.1 dL_law_369 zl_X11_now zc_L_45 rfl rfl zk_ok11 rfl (sX_now_ok hsX) (by decide) (Nat.le_of_ble_eq_true rfl) hK hcs rfl L9 (fun H1 locs1 L9 => ?_)
    refine lv_aload_n hx hb dL_law_372 rfl (lv_at hl 2 rfl) ?_
    refine lv_aload_n hx hb dL_law_373 rfl (lv_at hl 0 rfl) ?_
    refine lv_iload_n hx hb dL_law_374 rfl (lv_at hl 3 rfl) ?_
    refine lv_iconst (v := 1) hx hb dL_law_375 zki_1 ?_
    refine lv_iadd hx hb dL_law_376 ?_
    refine va_sld hx hb hX hbl hbA L9.2.2.2.2.2.1 hin1 dL_law_377 ?_
    refine lw_call 12 [.int (xs (x3 + 1).toNatClampNeg)] hx hb hml hown hts hl.1 dL_law_378 zl_X12_now zc_L_48 rfl rfl zk_ok12 rfl (sM_now_ok hsM) (by decide) (Nat.le_of_ble_eq_true rfl) hK hcs rfl L9.swap (fun H1 locs1 L9 => ?_)
    have L9 := L9.swap
    refine lv_icmp_eq (tgt := 987) hx hb dL_law_381 (by decide) (fun _ => ?_) (fun z => absurd rfl z)
    exact nxt _ _ _ _ _ _ hR1 L9 hl
  rcases Decidable.em (sw = (8 : Int32)) with c8 | c8
  · refine lv_tableIn (off := 354) (tgt := 386) hx hb dL_law_32 (by rw [c8]; decide) (by rw [c8]; decide) (by rw [c8]; decide) rfl ?_
    obtain ⟨v, y1, z1, hsX, hsM, hR1⟩ := pr_stands hR (xs (x3 + 1).toNatClampNeg) (xs (x3 + 2).toNatClampNeg)
    refine lv_aload_n hx hb dL_law_386 rfl (lv_at hl 1 rfl) ?_
    refine lv_aload_n hx hb dL_law_387 rfl (lv_at hl 0 rfl) ?_
    refine lv_iload_n hx hb dL_law_388 rfl (lv_at hl 3 rfl) ?_
    refine lv_iconst (v := 1) hx hb dL_law_389 zki_1 ?_
    refine lv_iadd hx hb dL_law_390 ?_
    refine va_sld hx hb hX hbl hbA L9.2.2.2.2.2.1 hin1 dL_law_391 ?_
    refine lv_aload_n hx hb dL_law_392 rfl (lv_at hl 0 rfl) ?_
    refine lv_iload_n hx hb dL_law_393 rfl (lv_at hl 3 rfl) ?_
    refine lv_iconst (v := 2) hx hb dL_law_394 zki_2 ?_
    refine lv_iadd hx hb dL_law_395 ?_
    refine va_sld hx hb hX hbl hbA L9.2.2.2.2.2.1 hin2 dL_law_396 ?_
    refine lw_call 11 [.int (xs (x3 + 1).toNatClampNeg), .int (xs (x3 + 2).toNatClampNeg)] hx hb hml hown hts hl.1 dL_law_397 zl_X11_stands zc_L_49 rfl rfl zk_ok11 rfl (sX_stands_ok hsX) (by decide) (Nat.le_of_ble_eq_true rfl) hK hcs rfl L9 (fun H1 locs1 L9 => ?_)
    refine lv_aload_n hx hb dL_law_400 rfl (lv_at hl 2 rfl) ?_
    refine lv_aload_n hx hb dL_law_401 rfl (lv_at hl 0 rfl) ?_
    refine lv_iload_n hx hb dL_law_402 rfl (lv_at hl 3 rfl) ?_
    refine lv_iconst (v := 1) hx hb dL_law_403 zki_1 ?_
    refine lv_iadd hx hb dL_law_404 ?_
    refine va_sld hx hb hX hbl hbA L9.2.2.2.2.2.1 hin1 dL_law_405 ?_
    refine lv_aload_n hx hb dL_law_406 rfl (lv_at hl 0 rfl) ?_
    refine lv_iload_n hx hb dL_law_407 rfl (lv_at hl 3 rfl) ?_
    refine lv_iconst (v := 2) hx hb dL_law_408 zki_2 ?_
    refine lv_iadd hx hb dL_law_409 ?_
    refine va_sld hx hb hX hbl hbA L9.2.2.2.2.2.1 hin2 dL_law_410 ?_
    refine lw_call 12 [.int (xs (x3 + 1).toNatClampNeg), .int (xs (x3 + 2).toNatClampNeg)] hx hb hml hown hts hl.1 dL_law_411 zl_X12_stands zc_L_52 rfl rfl zk_ok12 rfl (sM_stands_ok hsM) (by decide) (Nat.le_of_ble_eq_true rfl) hK hcs rfl L9.swap (fun H1 locs1 L9 => ?_)
    have L9 := L9.swap
    refine lv_icmp_eq (tgt := 987) hx hb dL_law_414 (by decide) (fun _ => ?_) (fun z => absurd rfl z)
    exact nxt _ _ _ _ _ _ hR1 L9 hl
  rcases Decidable.em (sw = (9 : Int32)) with c9 | c9
  · refine lv_tableIn (off := 387) (tgt := 419) hx hb dL_law_32 (by rw [c9]; decide) (by rw [c9]; decide) (by rw [c9]; decide) rfl ?_
    obtain ⟨v, y1, z1, hsX, hsM, hR1⟩ := pr_gale hR (xs (x3 + 1).toNatClampNeg)
    refine lv_aload_n hx hb dL_law_419 rfl (lv_at hl 1 rfl) ?_
    refine lv_aload_n hx hb dL_law_420 rfl (lv_at hl 0 rfl) ?_
    refine lv_iload_n hx hb dL_law_421 rfl (lv_at hl 3 rfl) ?_
    refine lv_iconst (v := 1) hx hb dL_law_422 zki_1 ?_
    refine lv_iadd hx hb dL_law_423 ?_
    refine va_sld hx hb hX hbl hbA L9.2.2.2.2.2.1 hin1 dL_law_424 ?_
    refine lw_call 11 [.int (xs (x3 + 1).toNatClampNeg)] hx hb hml hown hts hl.1 dL_law_425 zl_X11_gale zc_L_53 rfl rfl zk_ok11 rfl (sX_gale_ok hsX) (by decide) (Nat.le_of_ble_eq_true rfl) hK hcs rfl L9 (fun H1 locs1 L9 => ?_)
    refine lv_aload_n hx hb dL_law_428 rfl (lv_at hl 2 rfl) ?_
    refine lv_aload_n hx hb dL_law_429 rfl (lv_at hl 0 rfl) ?_
    refine lv_iload_n hx hb dL_law_430 rfl (lv_at hl 3 rfl) ?_
    refine lv_iconst (v := 1) hx hb dL_law_431 zki_1 ?_
    refine lv_iadd hx hb dL_law_432 ?_
    refine va_sld hx hb hX hbl hbA L9.2.2.2.2.2.1 hin1 dL_law_433 ?_
    refine lw_call 12 [.int (xs (x3 + 1).toNatClampNeg)] hx hb hml hown hts hl.1 dL_law_434 zl_X12_gale zc_L_56 rfl rfl zk_ok12 rfl (sM_gale_ok hsM) (by decide) (Nat.le_of_ble_eq_true rfl) hK hcs rfl L9.swap (fun H1 locs1 L9 => ?_)
    have L9 := L9.swap
    refine lv_icmp_eq (tgt := 987) hx hb dL_law_437 (by decide) (fun _ => ?_) (fun z => absurd rfl z)
    exact nxt _ _ _ _ _ _ hR1 L9 hl
  rcases Decidable.em (sw = (10 : Int32)) with c10 | c10
  · refine lv_tableIn (off := 410) (tgt := 442) hx hb dL_law_32 (by rw [c10]; decide) (by rw [c10]; decide) (by rw [c10]; decide) rfl ?_
    obtain ⟨v, y1, z1, hsX, hsM, hR1⟩ := pr_join hR (xs (x3 + 1).toNatClampNeg) (xs (x3 + 2).toNatClampNeg) (xs (x3 + 3).toNatClampNeg)
    refine lv_aload_n hx hb dL_law_442 rfl (lv_at hl 1 rfl) ?_
    refine lv_aload_n hx hb dL_law_443 rfl (lv_at hl 0 rfl) ?_
    refine lv_iload_n hx hb dL_law_444 rfl (lv_at hl 3 rfl) ?_
    refine lv_iconst (v := 1) hx hb dL_law_445 zki_1 ?_
    refine lv_iadd hx hb dL_law_446 ?_
    refine va_sld hx hb hX hbl hbA L9.2.2.2.2.2.1 hin1 dL_law_447 ?_
    refine lv_aload_n hx hb dL_law_448 rfl (lv_at hl 0 rfl) ?_
    refine lv_iload_n hx hb dL_law_449 rfl (lv_at hl 3 rfl) ?_
    refine lv_iconst (v := 2) hx hb dL_law_450 zki_2 ?_
    refine lv_iadd hx hb dL_law_451 ?_
    refine va_sld hx hb hX hbl hbA L9.2.2.2.2.2.1 hin2 dL_law_452 ?_
    refine lv_aload_n hx hb dL_law_453 rfl (lv_at hl 0 rfl) ?_
    refine lv_iload_n hx hb dL_law_454 rfl (lv_at hl 3 rfl) ?_
    refine lv_iconst (v := 3) hx hb dL_law_455 zki_3 ?_
    refine lv_iadd hx hb dL_law_456 ?_
    refine va_sld hx hb hX hbl hbA L9.2.2.2.2.2.1 hin3 dL_law_457 ?_
    refine lw_call 11 [.int (xs (x3 + 1).toNatClampNeg), .int (xs (x3 + 2).toNatClampNeg), .int (xs (x3 + 3).toNatClampNeg)] hx hb hml hown hts hl.1 dL_law_458 zl_X11_join zc_L_57 rfl rfl zk_ok11 rfl (sX_join_ok hsX) (by decide) (Nat.le_of_ble_eq_true rfl) hK hcs rfl L9 (fun H1 locs1 L9 => ?_)
    refine lv_aload_n hx hb dL_law_461 rfl (lv_at hl 2 rfl) ?_
    refine lv_aload_n hx hb dL_law_462 rfl (lv_at hl 0 rfl) ?_
    refine lv_iload_n hx hb dL_law_463 rfl (lv_at hl 3 rfl) ?_
    refine lv_iconst (v := 1) hx hb dL_law_464 zki_1 ?_
    refine lv_iadd hx hb dL_law_465 ?_
    refine va_sld hx hb hX hbl hbA L9.2.2.2.2.2.1 hin1 dL_law_466 ?_
    refine lv_aload_n hx hb dL_law_467 rfl (lv_at hl 0 rfl) ?_
    refine lv_iload_n hx hb dL_law_468 rfl (lv_at hl 3 rfl) ?_
    refine lv_iconst (v := 2) hx hb dL_law_469 zki_2 ?_
    refine lv_iadd hx hb dL_law_470 ?_
    refine va_sld hx hb hX hbl hbA L9.2.2.2.2.2.1 hin2 dL_law_471 ?_
    refine lv_aload_n hx hb dL_law_472 rfl (lv_at hl 0 rfl) ?_
    refine lv_iload_n hx hb dL_law_473 rfl (lv_at hl 3 rfl) ?_
    refine lv_iconst (v := 3) hx hb dL_law_474 zki_3 ?_
    refine lv_iadd hx hb dL_law_475 ?_
    refine va_sld hx hb hX hbl hbA L9.2.2.2.2.2.1 hin3 dL_law_476 ?_
    refine lw_call 12 [.int (xs (x3 + 1).toNatClampNeg), .int (xs (x3 + 2).toNatClampNeg), .int (xs (x3 + 3).toNatClampNeg)] hx hb hml hown hts hl.1 dL_law_477 zl_X12_join zc_L_60 rfl rfl zk_ok12 rfl (sM_join_ok hsM) (by decide) (Nat.le_of_ble_eq_true rfl) hK hcs rfl L9.swap (fun H1 locs1 L9 => ?_)
    have L9 := L9.swap
    refine lv_icmp_eq (tgt := 987) hx hb dL_law_480 (by decide) (fun _ => ?_) (fun z => absurd rfl z)
    exact nxt _ _ _ _ _ _ hR1 L9 hl
  rcases Decidable.em (sw = (11 : Int32)) with c11 | c11
  · refine lv_tableIn (off := 453) (tgt := 485) hx hb dL_law_32 (by rw [c11]; decide) (by rw [c11]; decide) (by rw [c11]; decide) rfl ?_
    obtain ⟨v, y1, z1, hsX, hsM, hR1⟩ := pr_spring hR
    refine lv_aload_n hx hb dL_law_485 rfl (lv_at hl 1 rfl) ?_
    refine lw_call 11 [] hx hb hml hown hts hl.1 dL_law_486 zl_X11_spring zc_L_61 rfl rfl zk_ok11 rfl (sX_spring_ok hsX) (by decide) (Nat.le_of_ble_eq_true rfl) hK hcs rfl L9 (fun H1 locs1 L9 => ?_)
    refine lv_aload_n hx hb dL_law_489 rfl (lv_at hl 2 rfl) ?_
    refine lw_call 12 [] hx hb hml hown hts hl.1 dL_law_490 zl_X12_spring zc_L_64 rfl rfl zk_ok12 rfl (sM_spring_ok hsM) (by decide) (Nat.le_of_ble_eq_true rfl) hK hcs rfl L9.swap (fun H1 locs1 L9 => ?_)
    have L9 := L9.swap
    refine lv_icmp_eq (tgt := 987) hx hb dL_law_493 (by decide) (fun _ => ?_) (fun z => absurd rfl z)
    exact nxt _ _ _ _ _ _ hR1 L9 hl
  rcases Decidable.em (sw = (12 : Int32)) with c12 | c12
  · refine lv_tableIn (off := 466) (tgt := 498) hx hb dL_law_32 (by rw [c12]; decide) (by rw [c12]; decide) (by rw [c12]; decide) rfl ?_
    obtain ⟨v, y1, z1, hsX, hsM, hR1⟩ := pr_undo hR
    refine lv_aload_n hx hb dL_law_498 rfl (lv_at hl 1 rfl) ?_
    refine lw_call 11 [] hx hb hml hown hts hl.1 dL_law_499 zl_X11_undo zc_L_65 rfl rfl zk_ok11 rfl (sX_undo_ok hsX) (by decide) (Nat.le_of_ble_eq_true rfl) hK hcs rfl L9 (fun H1 locs1 L9 => ?_)
    refine lv_aload_n hx hb dL_law_502 rfl (lv_at hl 2 rfl) ?_
    refine lw_call 12 [] hx hb hml hown hts hl.1 dL_law_503 zl_X12_undo zc_L_68 rfl rfl zk_ok12 rfl (sM_undo_ok hsM) (by decide) (Nat.le_of_ble_eq_true rfl) hK hcs rfl L9.swap (fun H1 locs1 L9 => ?_)
    have L9 := L9.swap
    refine lv_icmp_eq (tgt := 987) hx hb dL_law_506 (by decide) (fun _ => ?_) (fun z => absurd rfl z)
    exact nxt _ _ _ _ _ _ hR1 L9 hl
  rcases Decidable.em (sw = (13 : Int32)) with c13 | c13
  · refine lv_tableIn (off := 479) (tgt := 511) hx hb dL_law_32 (by rw [c13]; decide) (by rw [c13]; decide) (by rw [c13]; decide) rfl ?_
    obtain ⟨v, y1, z1, hsX, hsM, hR1⟩ := pr_most hR (xs (x3 + 1).toNatClampNeg)
    refine lv_aload_n hx hb dL_law_511 rfl (lv_at hl 1 rfl) ?_
    refine lv_aload_n hx hb dL_law_512 rfl (lv_at hl 0 rfl) ?_
    refine lv_iload_n hx hb dL_law_513 rfl (lv_at hl 3 rfl) ?_
    refine lv_iconst (v := 1) hx hb dL_law_514 zki_1 ?_
    refine lv_iadd hx hb dL_law_515 ?_
    refine va_sld hx hb hX hbl hbA L9.2.2.2.2.2.1 hin1 dL_law_516 ?_
    refine lw_call 11 [.int (xs (x3 + 1).toNatClampNeg)] hx hb hml hown hts hl.1 dL_law_517 zl_X11_most zc_L_69 rfl rfl zk_ok11 rfl (sX_most_ok hsX) (by decide) (Nat.le_of_ble_eq_true rfl) hK hcs rfl L9 (fun H1 locs1 L9 => ?_)
    refine lv_aload_n hx hb dL_law_520 rfl (lv_at hl 2 rfl) ?_
    refine lv_aload_n hx hb dL_law_521 rfl (lv_at hl 0 rfl) ?_
    refine lv_iload_n hx hb dL_law_522 rfl (lv_at hl 3 rfl) ?_
    refine lv_iconst (v := 1) hx hb dL_law_523 zki_1 ?_
    refine lv_iadd hx hb dL_law_524 ?_
    refine va_sld hx hb hX hbl hbA L9.2.2.2.2.2.1 hin1 dL_law_525 ?_
    refine lw_call 12 [.int (xs (x3 + 1).toNatClampNeg)] hx hb hml hown hts hl.1 dL_law_526 zl_X12_most zc_L_72 rfl rfl zk_ok12 rfl (sM_most_ok hsM) (by decide) (Nat.le_of_ble_eq_true rfl) hK hcs rfl L9.swap (fun H1 locs1 L9 => ?_)
    have L9 := L9.swap
    refine lv_icmp_eq (tgt := 987) hx hb dL_law_529 (by decide) (fun _ => ?_) (fun z => absurd rfl z)
    exact nxt _ _ _ _ _ _ hR1 L9 hl
  rcases Decidable.em (sw = (14 : Int32)) with c14 | c14
  · refine lv_tableIn (off := 502) (tgt := 534) hx hb dL_law_32 (by rw [c14]; decide) (by rw [c14]; decide) (by rw [c14]; decide) rfl ?_
    obtain ⟨v, y1, z1, hsX, hsM, hR1⟩ := pr_richest hR (xs (x3 + 1).toNatClampNeg)
    refine lv_aload_n hx hb dL_law_534 rfl (lv_at hl 1 rfl) ?_
    refine lv_aload_n hx hb dL_law_535 rfl (lv_at hl 0 rfl) ?_
    refine lv_iload_n hx hb dL_law_536 rfl (lv_at hl 3 rfl) ?_
    refine lv_iconst (v := 1) hx hb dL_law_537 zki_1 ?_
    refine lv_iadd hx hb dL_law_538 ?_
    refine va_sld hx hb hX hbl hbA L9.2.2.2.2.2.1 hin1 dL_law_539 ?_
    refine lw_call 11 [.int (xs (x3 + 1).toNatClampNeg)] hx hb hml hown hts hl.1 dL_law_540 zl_X11_richest zc_L_73 rfl rfl zk_ok11 rfl (sX_richest_ok hsX) (by decide) (Nat.le_of_ble_eq_true rfl) hK hcs rfl L9 (fun H1 locs1 L9 => ?_)
    refine lv_aload_n hx hb dL_law_543 rfl (lv_at hl 2 rfl) ?_
    refine lv_aload_n hx hb dL_law_544 rfl (lv_at hl 0 rfl) ?_
    refine lv_iload_n hx hb dL_law_545 rfl (lv_at hl 3 rfl) ?_
    refine lv_iconst (v := 1) hx hb dL_law_546 zki_1 ?_
    refine lv_iadd hx hb dL_law_547 ?_
    refine va_sld hx hb hX hbl hbA L9.2.2.2.2.2.1 hin1 dL_law_548 ?_
    refine lw_call 12 [.int (xs (x3 + 1).toNatClampNeg)] hx hb hml hown hts hl.1 dL_law_549 zl_X12_richest zc_L_76 rfl rfl zk_ok12 rfl (sM_richest_ok hsM) (by decide) (Nat.le_of_ble_eq_true rfl) hK hcs rfl L9.swap (fun H1 locs1 L9 => ?_)
    have L9 := L9.swap
    refine lv_icmp_eq (tgt := 987) hx hb dL_law_552 (by decide) (fun _ => ?_) (fun z => absurd rfl z)
    exact nxt _ _ _ _ _ _ hR1 L9 hl
  rcases Decidable.em (sw = (15 : Int32)) with c15 | c15
  · refine lv_tableIn (off := 525) (tgt := 557) hx hb dL_law_32 (by rw [c15]; decide) (by rw [c15]; decide) (by rw [c15]; decide) rfl ?_
    obtain ⟨v, y1, z1, hsX, hsM, hR1⟩ := pr_firstOut hR (xs (x3 + 1).toNatClampNeg) (xs (x3 + 2).toNatClampNeg)
    refine lv_aload_n hx hb dL_law_557 rfl (lv_at hl 1 rfl) ?_
    refine lv_aload_n hx hb dL_law_558 rfl (lv_at hl 0 rfl) ?_
    refine lv_iload_n hx hb dL_law_559 rfl (lv_at hl 3 rfl) ?_
    refine lv_iconst (v := 1) hx hb dL_law_560 zki_1 ?_
    refine lv_iadd hx hb dL_law_561 ?_
    refine va_sld hx hb hX hbl hbA L9.2.2.2.2.2.1 hin1 dL_law_562 ?_
    refine lv_aload_n hx hb dL_law_563 rfl (lv_at hl 0 rfl) ?_
    refine lv_iload_n hx hb dL_law_564 rfl (lv_at hl 3 rfl) ?_
    refine lv_iconst (v := 2) hx hb dL_law_565 zki_2 ?_
    refine lv_iadd hx hb dL_law_566 ?_
    refine va_sld hx hb hX hbl hbA L9.2.2.2.2.2.1 hin2 dL_law_567 ?_
    refine lw_call 11 [.int (xs (x3 + 1).toNatClampNeg), .int (xs (x3 + 2).toNatClampNeg)] hx hb hml hown hts hl.1 dL_law_568 zl_X11_firstOut zc_L_77 rfl rfl zk_ok11 rfl (sX_firstOut_ok hsX) (by decide) (Nat.le_of_ble_eq_true rfl) hK hcs rfl L9 (fun H1 locs1 L9 => ?_)
    refine lv_aload_n hx hb dL_law_571 rfl (lv_at hl 2 rfl) ?_
    refine lv_aload_n hx hb dL_law_572 rfl (lv_at hl 0 rfl) ?_
    refine lv_iload_n hx hb dL_law_573 rfl (lv_at hl 3 rfl) ?_
    refine lv_iconst (v := 1) hx hb dL_law_574 zki_1 ?_
    refine lv_iadd hx hb dL_law_575 ?_
    refine va_sld hx hb hX hbl hbA L9.2.2.2.2.2.1 hin1 dL_law_576 ?_
    refine lv_aload_n hx hb dL_law_577 rfl (lv_at hl 0 rfl) ?_
    refine lv_iload_n hx hb dL_law_578 rfl (lv_at hl 3 rfl) ?_
    refine lv_iconst (v := 2) hx hb dL_law_579 zki_2 ?_
    refine lv_iadd hx hb dL_law_580 ?_
    refine va_sld hx hb hX hbl hbA L9.2.2.2.2.2.1 hin2 dL_law_581 ?_
    refine lw_call 12 [.int (xs (x3 + 1).toNatClampNeg), .int (xs (x3 + 2).toNatClampNeg)] hx hb hml hown hts hl.1 dL_law_582 zl_X12_firstOut zc_L_80 rfl rfl zk_ok12 rfl (sM_firstOut_ok hsM) (by decide) (Nat.le_of_ble_eq_true rfl) hK hcs rfl L9.swap (fun H1 locs1 L9 => ?_)
    have L9 := L9.swap
    refine lv_icmp_eq (tgt := 987) hx hb dL_law_585 (by decide) (fun _ => ?_) (fun z => absurd rfl z)
    exact nxt _ _ _ _ _ _ hR1 L9 hl
  rcases Decidable.em (sw = (16 : Int32)) with c16 | c16
  · refine lv_tableIn (off := 558) (tgt := 590) hx hb dL_law_32 (by rw [c16]; decide) (by rw [c16]; decide) (by rw [c16]; decide) rfl ?_
    obtain ⟨v, y1, z1, hsX, hsM, hR1⟩ := pr_holdsFor hR (xs (x3 + 1).toNatClampNeg)
    refine lv_aload_n hx hb dL_law_590 rfl (lv_at hl 1 rfl) ?_
    refine lv_aload_n hx hb dL_law_591 rfl (lv_at hl 0 rfl) ?_
    refine lv_iload_n hx hb dL_law_592 rfl (lv_at hl 3 rfl) ?_
    refine lv_iconst (v := 1) hx hb dL_law_593 zki_1 ?_
    refine lv_iadd hx hb dL_law_594 ?_
    refine va_sld hx hb hX hbl hbA L9.2.2.2.2.2.1 hin1 dL_law_595 ?_
    refine lw_call 11 [.int (xs (x3 + 1).toNatClampNeg)] hx hb hml hown hts hl.1 dL_law_596 zl_X11_holdsFor zc_L_81 rfl rfl zk_ok11 rfl (sX_holdsFor_ok hsX) (by decide) (Nat.le_of_ble_eq_true rfl) hK hcs rfl L9 (fun H1 locs1 L9 => ?_)
    refine lv_aload_n hx hb dL_law_599 rfl (lv_at hl 2 rfl) ?_
    refine lv_aload_n hx hb dL_law_600 rfl (lv_at hl 0 rfl) ?_
    refine lv_iload_n hx hb dL_law_601 rfl (lv_at hl 3 rfl) ?_
    refine lv_iconst (v := 1) hx hb dL_law_602 zki_1 ?_
    refine lv_iadd hx hb dL_law_603 ?_
    refine va_sld hx hb hX hbl hbA L9.2.2.2.2.2.1 hin1 dL_law_604 ?_
    refine lw_call 12 [.int (xs (x3 + 1).toNatClampNeg)] hx hb hml hown hts hl.1 dL_law_605 zl_X12_holdsFor zc_L_84 rfl rfl zk_ok12 rfl (sM_holdsFor_ok hsM) (by decide) (Nat.le_of_ble_eq_true rfl) hK hcs rfl L9.swap (fun H1 locs1 L9 => ?_)
    have L9 := L9.swap
    refine lv_icmp_eq (tgt := 987) hx hb dL_law_608 (by decide) (fun _ => ?_) (fun z => absurd rfl z)
    exact nxt _ _ _ _ _ _ hR1 L9 hl
  rcases Decidable.em (sw = (17 : Int32)) with c17 | c17
  · refine lv_tableIn (off := 581) (tgt := 613) hx hb dL_law_32 (by rw [c17]; decide) (by rw [c17]; decide) (by rw [c17]; decide) rfl ?_
    obtain ⟨v, y1, z1, hsX, hsM, hR1⟩ := pr_bolts hR (xs (x3 + 1).toNatClampNeg) (xs (x3 + 2).toNatClampNeg) (xs (x3 + 3).toNatClampNeg)
    refine lv_aload_n hx hb dL_law_613 rfl (lv_at hl 1 rfl) ?_
    refine lv_aload_n hx hb dL_law_614 rfl (lv_at hl 0 rfl) ?_
    refine lv_iload_n hx hb dL_law_615 rfl (lv_at hl 3 rfl) ?_
    refine lv_iconst (v := 1) hx hb dL_law_616 zki_1 ?_
    refine lv_iadd hx hb dL_law_617 ?_
    refine va_sld hx hb hX hbl hbA L9.2.2.2.2.2.1 hin1 dL_law_618 ?_
    refine lv_aload_n hx hb dL_law_619 rfl (lv_at hl 0 rfl) ?_
    refine lv_iload_n hx hb dL_law_620 rfl (lv_at hl 3 rfl) ?_
    refine lv_iconst (v := 2) hx hb dL_law_621 zki_2 ?_
    refine lv_iadd hx hb dL_law_622 ?_
    refine va_sld hx hb hX hbl hbA L9.2.2.2.2.2.1 hin2 dL_law_623 ?_
    refine lv_aload_n hx hb dL_law_624 rfl (lv_at hl 0 rfl) ?_
    refine lv_iload_n hx hb dL_law_625 rfl (lv_at hl 3 rfl) ?_
    refine lv_iconst (v := 3) hx hb dL_law_626 zki_3 ?_
    refine lv_iadd hx hb dL_law_627 ?_
    refine va_sld hx hb hX hbl hbA L9.2.2.2.2.2.1 hin3 dL_law_628 ?_
    refine lw_call 11 [.int (xs (x3 + 1).toNatClampNeg), .int (xs (x3 + 2).toNatClampNeg), .int (xs (x3 + 3).toNatClampNeg)] hx hb hml hown hts hl.1 dL_law_629 zl_X11_bolts zc_L_85 rfl rfl zk_ok11 rfl (sX_bolts_ok hsX) (by decide) (Nat.le_of_ble_eq_true rfl) hK hcs rfl L9 (fun H1 locs1 L9 => ?_)
    refine lv_aload_n hx hb dL_law_632 rfl (lv_at hl 2 rfl) ?_
    refine lv_aload_n hx hb dL_law_633 rfl (lv_at hl 0 rfl) ?_
    refine lv_iload_n hx hb dL_law_634 rfl (lv_at hl 3 rfl) ?_
    refine lv_iconst (v := 1) hx hb dL_law_635 zki_1 ?_
    refine lv_iadd hx hb dL_law_636 ?_
    refine va_sld hx hb hX hbl hbA L9.2.2.2.2.2.1 hin1 dL_law_637 ?_
    refine lv_aload_n hx hb dL_law_638 rfl (lv_at hl 0 rfl) ?_
    refine lv_iload_n hx hb dL_law_639 rfl (lv_at hl 3 rfl) ?_
    refine lv_iconst (v := 2) hx hb dL_law_640 zki_2 ?_
    refine lv_iadd hx hb dL_law_641 ?_
    refine va_sld hx hb hX hbl hbA L9.2.2.2.2.2.1 hin2 dL_law_642 ?_
    refine lv_aload_n hx hb dL_law_643 rfl (lv_at hl 0 rfl) ?_
    refine lv_iload_n hx hb dL_law_644 rfl (lv_at hl 3 rfl) ?_
    refine lv_iconst (v := 3) hx hb dL_law_645 zki_3 ?_
    refine lv_iadd hx hb dL_law_646 ?_
    refine va_sld hx hb hX hbl hbA L9.2.2.2.2.2.1 hin3 dL_law_647 ?_
    refine lw_call 12 [.int (xs (x3 + 1).toNatClampNeg), .int (xs (x3 + 2).toNatClampNeg), .int (xs (x3 + 3).toNatClampNeg)] hx hb hml hown hts hl.1 dL_law_648 zl_X12_bolts zc_L_88 rfl rfl zk_ok12 rfl (sM_bolts_ok hsM) (by decide) (Nat.le_of_ble_eq_true rfl) hK hcs rfl L9.swap (fun H1 locs1 L9 => ?_)
    have L9 := L9.swap
    refine lv_icmp_eq (tgt := 987) hx hb dL_law_651 (by decide) (fun _ => ?_) (fun z => absurd rfl z)
    exact nxt _ _ _ _ _ _ hR1 L9 hl
  rcases Decidable.em (sw = (18 : Int32)) with c18 | c18
  · refine lv_tableIn (off := 624) (tgt := 656) hx hb dL_law_32 (by rw [c18]; decide) (by rw [c18]; decide) (by rw [c18]; decide) rfl ?_
    obtain ⟨v, y1, z1, hsX, hsM, hR1⟩ := pr_odds hR (xs (x3 + 1).toNatClampNeg) (xs (x3 + 2).toNatClampNeg) (xs (x3 + 3).toNatClampNeg) (xs (x3 + 4).toNatClampNeg)
    refine lv_aload_n hx hb dL_law_656 rfl (lv_at hl 1 rfl) ?_
    refine lv_aload_n hx hb dL_law_657 rfl (lv_at hl 0 rfl) ?_
    refine lv_iload_n hx hb dL_law_658 rfl (lv_at hl 3 rfl) ?_
    refine lv_iconst (v := 1) hx hb dL_law_659 zki_1 ?_
    refine lv_iadd hx hb dL_law_660 ?_
    refine va_sld hx hb hX hbl hbA L9.2.2.2.2.2.1 hin1 dL_law_661 ?_
    refine lv_aload_n hx hb dL_law_662 rfl (lv_at hl 0 rfl) ?_
    refine lv_iload_n hx hb dL_law_663 rfl (lv_at hl 3 rfl) ?_
    refine lv_iconst (v := 2) hx hb dL_law_664 zki_2 ?_
    refine lv_iadd hx hb dL_law_665 ?_
    refine va_sld hx hb hX hbl hbA L9.2.2.2.2.2.1 hin2 dL_law_666 ?_
    refine lv_aload_n hx hb dL_law_667 rfl (lv_at hl 0 rfl) ?_
    refine lv_iload_n hx hb dL_law_668 rfl (lv_at hl 3 rfl) ?_
    refine lv_iconst (v := 3) hx hb dL_law_669 zki_3 ?_
    refine lv_iadd hx hb dL_law_670 ?_
    refine va_sld hx hb hX hbl hbA L9.2.2.2.2.2.1 hin3 dL_law_671 ?_
    refine lv_aload_n hx hb dL_law_672 rfl (lv_at hl 0 rfl) ?_
    refine lv_iload_n hx hb dL_law_673 rfl (lv_at hl 3 rfl) ?_
    refine lv_iconst (v := 4) hx hb dL_law_674 zki_4 ?_
    refine lv_iadd hx hb dL_law_675 ?_
    refine va_sld hx hb hX hbl hbA L9.2.2.2.2.2.1 hin4 dL_law_676 ?_
    refine lw_call 11 [.int (xs (x3 + 1).toNatClampNeg), .int (xs (x3 + 2).toNatClampNeg), .int (xs (x3 + 3).toNatClampNeg), .int (xs (x3 + 4).toNatClampNeg)] hx hb hml hown hts hl.1 dL_law_677 zl_X11_odds zc_L_89 rfl rfl zk_ok11 rfl (sX_odds_ok hsX) (by decide) (Nat.le_of_ble_eq_true rfl) hK hcs rfl L9 (fun H1 locs1 L9 => ?_)
    refine lv_aload_n hx hb dL_law_680 rfl (lv_at hl 2 rfl) ?_
    refine lv_aload_n hx hb dL_law_681 rfl (lv_at hl 0 rfl) ?_
    refine lv_iload_n hx hb dL_law_682 rfl (lv_at hl 3 rfl) ?_
    refine lv_iconst (v := 1) hx hb dL_law_683 zki_1 ?_
    refine lv_iadd hx hb dL_law_684 ?_
    refine va_sld hx hb hX hbl hbA L9.2.2.2.2.2.1 hin1 dL_law_685 ?_
    refine lv_aload_n hx hb dL_law_686 rfl (lv_at hl 0 rfl) ?_
    refine lv_iload_n hx hb dL_law_687 rfl (lv_at hl 3 rfl) ?_
    refine lv_iconst (v := 2) hx hb dL_law_688 zki_2 ?_
    refine lv_iadd hx hb dL_law_689 ?_
    refine va_sld hx hb hX hbl hbA L9.2.2.2.2.2.1 hin2 dL_law_690 ?_
    refine lv_aload_n hx hb dL_law_691 rfl (lv_at hl 0 rfl) ?_
    refine lv_iload_n hx hb dL_law_692 rfl (lv_at hl 3 rfl) ?_
    refine lv_iconst (v := 3) hx hb dL_law_693 zki_3 ?_
    refine lv_iadd hx hb dL_law_694 ?_
    refine va_sld hx hb hX hbl hbA L9.2.2.2.2.2.1 hin3 dL_law_695 ?_
    refine lv_aload_n hx hb dL_law_696 rfl (lv_at hl 0 rfl) ?_
    refine lv_iload_n hx hb dL_law_697 rfl (lv_at hl 3 rfl) ?_
    refine lv_iconst (v := 4) hx hb dL_law_698 zki_4 ?_
    refine lv_iadd hx hb dL_law_699 ?_
    refine va_sld hx hb hX hbl hbA L9.2.2.2.2.2.1 hin4 dL_law_700 ?_
    refine lw_call 12 [.int (xs (x3 + 1).toNatClampNeg), .int (xs (x3 + 2).toNatClampNeg), .int (xs (x3 + 3).toNatClampNeg), .int (xs (x3 + 4).toNatClampNeg)] hx hb hml hown hts hl.1 dL_law_701 zl_X12_odds zc_L_93 rfl rfl zk_ok12 rfl (sM_odds_ok hsM) (by decide) (Nat.le_of_ble_eq_true rfl) hK hcs rfl L9.swap (fun H1 locs1 L9 => ?_)
    have L9 := L9.swap
    refine W.lcmp hx hb dL_law_704 ?_
    refine lv_if_eq (tgt := 987) hx hb dL_law_705 (by decide) (fun _ => ?_) (fun z => absurd (lw_cmp _) z)
    exact nxt _ _ _ _ _ _ hR1 L9 hl
  rcases Decidable.em (sw = (19 : Int32)) with c19 | c19
  · refine lv_tableIn (off := 678) (tgt := 710) hx hb dL_law_32 (by rw [c19]; decide) (by rw [c19]; decide) (by rw [c19]; decide) rfl ?_
    obtain ⟨v, y1, z1, hsX, hsM, hR1⟩ := pr_orders hR (xs (x3 + 1).toNatClampNeg)
    refine lv_aload_n hx hb dL_law_710 rfl (lv_at hl 1 rfl) ?_
    refine lv_aload_n hx hb dL_law_711 rfl (lv_at hl 0 rfl) ?_
    refine lv_iload_n hx hb dL_law_712 rfl (lv_at hl 3 rfl) ?_
    refine lv_iconst (v := 1) hx hb dL_law_713 zki_1 ?_
    refine lv_iadd hx hb dL_law_714 ?_
    refine va_sld hx hb hX hbl hbA L9.2.2.2.2.2.1 hin1 dL_law_715 ?_
    refine lw_call 11 [.int (xs (x3 + 1).toNatClampNeg)] hx hb hml hown hts hl.1 dL_law_716 zl_X11_orders zc_L_94 rfl rfl zk_ok11 rfl (sX_orders_ok hsX) (by decide) (Nat.le_of_ble_eq_true rfl) hK hcs rfl L9 (fun H1 locs1 L9 => ?_)
    refine lv_aload_n hx hb dL_law_719 rfl (lv_at hl 2 rfl) ?_
    refine lv_aload_n hx hb dL_law_720 rfl (lv_at hl 0 rfl) ?_
    refine lv_iload_n hx hb dL_law_721 rfl (lv_at hl 3 rfl) ?_
    refine lv_iconst (v := 1) hx hb dL_law_722 zki_1 ?_
    refine lv_iadd hx hb dL_law_723 ?_
    refine va_sld hx hb hX hbl hbA L9.2.2.2.2.2.1 hin1 dL_law_724 ?_
    refine lw_call 12 [.int (xs (x3 + 1).toNatClampNeg)] hx hb hml hown hts hl.1 dL_law_725 zl_X12_orders zc_L_97 rfl rfl zk_ok12 rfl (sM_orders_ok hsM) (by decide) (Nat.le_of_ble_eq_true rfl) hK hcs rfl L9.swap (fun H1 locs1 L9 => ?_)
    have L9 := L9.swap
    refine lv_icmp_eq (tgt := 987) hx hb dL_law_728 (by decide) (fun _ => ?_) (fun z => absurd rfl z)
    exact nxt _ _ _ _ _ _ hR1 L9 hl
  rcases Decidable.em (sw = (20 : Int32)) with c20 | c20
  · refine lv_tableIn (off := 701) (tgt := 733) hx hb dL_law_32 (by rw [c20]; decide) (by rw [c20]; decide) (by rw [c20]; decide) rfl ?_
    obtain ⟨v, y1, z1, hsX, hsM, hR1⟩ := pr_barred hR
    refine lv_aload_n hx hb dL_law_733 rfl (lv_at hl 1 rfl) ?_
    refine lw_call 11 [] hx hb hml hown hts hl.1 dL_law_734 zl_X11_barred zc_L_98 rfl rfl zk_ok11 rfl (sX_barred_ok hsX) (by decide) (Nat.le_of_ble_eq_true rfl) hK hcs rfl L9 (fun H1 locs1 L9 => ?_)
    refine lv_aload_n hx hb dL_law_737 rfl (lv_at hl 2 rfl) ?_
    refine lw_call 12 [] hx hb hml hown hts hl.1 dL_law_738 zl_X12_barred zc_L_101 rfl rfl zk_ok12 rfl (sM_barred_ok hsM) (by decide) (Nat.le_of_ble_eq_true rfl) hK hcs rfl L9.swap (fun H1 locs1 L9 => ?_)
    have L9 := L9.swap
    refine lv_icmp_eq (tgt := 987) hx hb dL_law_741 (by decide) (fun _ => ?_) (fun z => absurd rfl z)
    exact nxt _ _ _ _ _ _ hR1 L9 hl
  rcases Decidable.em (sw = (21 : Int32)) with c21 | c21
  · refine lv_tableIn (off := 714) (tgt := 746) hx hb dL_law_32 (by rw [c21]; decide) (by rw [c21]; decide) (by rw [c21]; decide) rfl ?_
    obtain ⟨v, y1, z1, hsX, hsM, hR1⟩ := pr_hoist hR (xs (x3 + 1).toNatClampNeg) (xs (x3 + 2).toNatClampNeg)
    refine lv_aload_n hx hb dL_law_746 rfl (lv_at hl 1 rfl) ?_
    refine lv_aload_n hx hb dL_law_747 rfl (lv_at hl 0 rfl) ?_
    refine lv_iload_n hx hb dL_law_748 rfl (lv_at hl 3 rfl) ?_
    refine lv_iconst (v := 1) hx hb dL_law_749 zki_1 ?_
    refine lv_iadd hx hb dL_law_750 ?_
    refine va_sld hx hb hX hbl hbA L9.2.2.2.2.2.1 hin1 dL_law_751 ?_
    refine lv_aload_n hx hb dL_law_752 rfl (lv_at hl 0 rfl) ?_
    refine lv_iload_n hx hb dL_law_753 rfl (lv_at hl 3 rfl) ?_
    refine lv_iconst (v := 2) hx hb dL_law_754 zki_2 ?_
    refine lv_iadd hx hb dL_law_755 ?_
    refine va_sld hx hb hX hbl hbA L9.2.2.2.2.2.1 hin2 dL_law_756 ?_
    refine lw_call 11 [.int (xs (x3 + 1).toNatClampNeg), .int (xs (x3 + 2).toNatClampNeg)] hx hb hml hown hts hl.1 dL_law_757 zl_X11_hoist zc_L_102 rfl rfl zk_ok11 rfl (sX_hoist_ok hsX) (by decide) (Nat.le_of_ble_eq_true rfl) hK hcs rfl L9 (fun H1 locs1 L9 => ?_)
    refine lv_aload_n hx hb dL_law_760 rfl (lv_at hl 2 rfl) ?_
    refine lv_aload_n hx hb dL_law_761 rfl (lv_at hl 0 rfl) ?_
    refine lv_iload_n hx hb dL_law_762 rfl (lv_at hl 3 rfl) ?_
    refine lv_iconst (v := 1) hx hb dL_law_763 zki_1 ?_
    refine lv_iadd hx hb dL_law_764 ?_
    refine va_sld hx hb hX hbl hbA L9.2.2.2.2.2.1 hin1 dL_law_765 ?_
    refine lv_aload_n hx hb dL_law_766 rfl (lv_at hl 0 rfl) ?_
    refine lv_iload_n hx hb dL_law_767 rfl (lv_at hl 3 rfl) ?_
    refine lv_iconst (v := 2) hx hb dL_law_768 zki_2 ?_
    refine lv_iadd hx hb dL_law_769 ?_
    refine va_sld hx hb hX hbl hbA L9.2.2.2.2.2.1 hin2 dL_law_770 ?_
    refine lw_call 12 [.int (xs (x3 + 1).toNatClampNeg), .int (xs (x3 + 2).toNatClampNeg)] hx hb hml hown hts hl.1 dL_law_771 zl_X12_hoist zc_L_105 rfl rfl zk_ok12 rfl (sM_hoist_ok hsM) (by decide) (Nat.le_of_ble_eq_true rfl) hK hcs rfl L9.swap (fun H1 locs1 L9 => ?_)
    have L9 := L9.swap
    refine lv_icmp_eq (tgt := 987) hx hb dL_law_774 (by decide) (fun _ => ?_) (fun z => absurd rfl z)
    exact nxt _ _ _ _ _ _ hR1 L9 hl
  rcases Decidable.em (sw = (22 : Int32)) with c22 | c22
  · refine lv_tableIn (off := 747) (tgt := 779) hx hb dL_law_32 (by rw [c22]; decide) (by rw [c22]; decide) (by rw [c22]; decide) rfl ?_
    obtain ⟨v, y1, z1, hsX, hsM, hR1⟩ := pr_test hR (xs (x3 + 1).toNatClampNeg) (xs (x3 + 2).toNatClampNeg) (xs (x3 + 3).toNatClampNeg)
    refine lv_aload_n hx hb dL_law_779 rfl (lv_at hl 1 rfl) ?_
    refine lv_aload_n hx hb dL_law_780 rfl (lv_at hl 0 rfl) ?_
    refine lv_iload_n hx hb dL_law_781 rfl (lv_at hl 3 rfl) ?_
    refine lv_iconst (v := 1) hx hb dL_law_782 zki_1 ?_
    refine lv_iadd hx hb dL_law_783 ?_
    refine va_sld hx hb hX hbl hbA L9.2.2.2.2.2.1 hin1 dL_law_784 ?_
    refine lv_aload_n hx hb dL_law_785 rfl (lv_at hl 0 rfl) ?_
    refine lv_iload_n hx hb dL_law_786 rfl (lv_at hl 3 rfl) ?_
    refine lv_iconst (v := 2) hx hb dL_law_787 zki_2 ?_
    refine lv_iadd hx hb dL_law_788 ?_
    refine va_sld hx hb hX hbl hbA L9.2.2.2.2.2.1 hin2 dL_law_789 ?_
    refine lv_aload_n hx hb dL_law_790 rfl (lv_at hl 0 rfl) ?_
    refine lv_iload_n hx hb dL_law_791 rfl (lv_at hl 3 rfl) ?_
    refine lv_iconst (v := 3) hx hb dL_law_792 zki_3 ?_
    refine lv_iadd hx hb dL_law_793 ?_
    refine va_sld hx hb hX hbl hbA L9.2.2.2.2.2.1 hin3 dL_law_794 ?_
    refine lw_call 11 [.int (xs (x3 + 1).toNatClampNeg), .int (xs (x3 + 2).toNatClampNeg), .int (xs (x3 + 3).toNatClampNeg)] hx hb hml hown hts hl.1 dL_law_795 zl_X11_test zc_L_106 rfl rfl zk_ok11 rfl (sX_test_ok hsX) (by decide) (Nat.le_of_ble_eq_true rfl) hK hcs rfl L9 (fun H1 locs1 L9 => ?_)
    refine lv_aload_n hx hb dL_law_798 rfl (lv_at hl 2 rfl) ?_
    refine lv_aload_n hx hb dL_law_799 rfl (lv_at hl 0 rfl) ?_
    refine lv_iload_n hx hb dL_law_800 rfl (lv_at hl 3 rfl) ?_
    refine lv_iconst (v := 1) hx hb dL_law_801 zki_1 ?_
    refine lv_iadd hx hb dL_law_802 ?_
    refine va_sld hx hb hX hbl hbA L9.2.2.2.2.2.1 hin1 dL_law_803 ?_
    refine lv_aload_n hx hb dL_law_804 rfl (lv_at hl 0 rfl) ?_
    refine lv_iload_n hx hb dL_law_805 rfl (lv_at hl 3 rfl) ?_
    refine lv_iconst (v := 2) hx hb dL_law_806 zki_2 ?_
    refine lv_iadd hx hb dL_law_807 ?_
    refine va_sld hx hb hX hbl hbA L9.2.2.2.2.2.1 hin2 dL_law_808 ?_
    refine lv_aload_n hx hb dL_law_809 rfl (lv_at hl 0 rfl) ?_
    refine lv_iload_n hx hb dL_law_810 rfl (lv_at hl 3 rfl) ?_
    refine lv_iconst (v := 3) hx hb dL_law_811 zki_3 ?_
    refine lv_iadd hx hb dL_law_812 ?_
    refine va_sld hx hb hX hbl hbA L9.2.2.2.2.2.1 hin3 dL_law_813 ?_
    refine lw_call 12 [.int (xs (x3 + 1).toNatClampNeg), .int (xs (x3 + 2).toNatClampNeg), .int (xs (x3 + 3).toNatClampNeg)] hx hb hml hown hts hl.1 dL_law_814 zl_X12_test zc_L_109 rfl rfl zk_ok12 rfl (sM_test_ok hsM) (by decide) (Nat.le_of_ble_eq_true rfl) hK hcs rfl L9.swap (fun H1 locs1 L9 => ?_)
    have L9 := L9.swap
    refine lv_icmp_eq (tgt := 987) hx hb dL_law_817 (by decide) (fun _ => ?_) (fun z => absurd rfl z)
    exact nxt _ _ _ _ _ _ hR1 L9 hl
  rcases Decidable.em (sw = (23 : Int32)) with c23 | c23
  · refine lv_tableIn (off := 790) (tgt := 822) hx hb dL_law_32 (by rw [c23]; decide) (by rw [c23]; decide) (by rw [c23]; decide) rfl ?_
    obtain ⟨v, y1, z1, hsX, hsM, hR1⟩ := pr_forget hR
    refine lv_aload_n hx hb dL_law_822 rfl (lv_at hl 1 rfl) ?_
    refine lw_call 11 [] hx hb hml hown hts hl.1 dL_law_823 zl_X11_forget zc_L_110 rfl rfl zk_ok11 rfl (sX_forget_ok hsX) (by decide) (Nat.le_of_ble_eq_true rfl) hK hcs rfl L9 (fun H1 locs1 L9 => ?_)
    refine lv_aload_n hx hb dL_law_826 rfl (lv_at hl 2 rfl) ?_
    refine lw_call 12 [] hx hb hml hown hts hl.1 dL_law_827 zl_X12_forget zc_L_113 rfl rfl zk_ok12 rfl (sM_forget_ok hsM) (by decide) (Nat.le_of_ble_eq_true rfl) hK hcs rfl L9.swap (fun H1 locs1 L9 => ?_)
    have L9 := L9.swap
    refine lv_icmp_eq (tgt := 987) hx hb dL_law_830 (by decide) (fun _ => ?_) (fun z => absurd rfl z)
    exact nxt _ _ _ _ _ _ hR1 L9 hl
  rcases Decidable.em (sw = (24 : Int32)) with c24 | c24
  · refine lv_tableIn (off := 803) (tgt := 835) hx hb dL_law_32 (by rw [c24]; decide) (by rw [c24]; decide) (by rw [c24]; decide) rfl ?_
    obtain ⟨v, y1, z1, hsX, hsM, hR1⟩ := pr_mayBe hR
    refine lv_aload_n hx hb dL_law_835 rfl (lv_at hl 1 rfl) ?_
    refine lw_call 11 [] hx hb hml hown hts hl.1 dL_law_836 zl_X11_mayBe zc_L_114 rfl rfl zk_ok11 rfl (sX_mayBe_ok hsX) (by decide) (Nat.le_of_ble_eq_true rfl) hK hcs rfl L9 (fun H1 locs1 L9 => ?_)
    refine lv_aload_n hx hb dL_law_839 rfl (lv_at hl 2 rfl) ?_
    refine lw_call 12 [] hx hb hml hown hts hl.1 dL_law_840 zl_X12_mayBe zc_L_117 rfl rfl zk_ok12 rfl (sM_mayBe_ok hsM) (by decide) (Nat.le_of_ble_eq_true rfl) hK hcs rfl L9.swap (fun H1 locs1 L9 => ?_)
    have L9 := L9.swap
    refine lv_icmp_eq (tgt := 987) hx hb dL_law_843 (by decide) (fun _ => ?_) (fun z => absurd rfl z)
    exact nxt _ _ _ _ _ _ hR1 L9 hl
  rcases Decidable.em (sw = (25 : Int32)) with c25 | c25
  · refine lv_tableIn (off := 816) (tgt := 848) hx hb dL_law_32 (by rw [c25]; decide) (by rw [c25]; decide) (by rw [c25]; decide) rfl ?_
    obtain ⟨v, y1, z1, hsX, hsM, hR1⟩ := pr_ask hR (xs (x3 + 1).toNatClampNeg)
    refine lv_aload_n hx hb dL_law_848 rfl (lv_at hl 1 rfl) ?_
    refine lv_aload_n hx hb dL_law_849 rfl (lv_at hl 0 rfl) ?_
    refine lv_iload_n hx hb dL_law_850 rfl (lv_at hl 3 rfl) ?_
    refine lv_iconst (v := 1) hx hb dL_law_851 zki_1 ?_
    refine lv_iadd hx hb dL_law_852 ?_
    refine va_sld hx hb hX hbl hbA L9.2.2.2.2.2.1 hin1 dL_law_853 ?_
    refine lw_call 11 [.int (xs (x3 + 1).toNatClampNeg)] hx hb hml hown hts hl.1 dL_law_854 zl_X11_ask zc_L_118 rfl rfl zk_ok11 rfl (sX_ask_ok hsX) (by decide) (Nat.le_of_ble_eq_true rfl) hK hcs rfl L9 (fun H1 locs1 L9 => ?_)
    refine lv_aload_n hx hb dL_law_857 rfl (lv_at hl 2 rfl) ?_
    refine lv_aload_n hx hb dL_law_858 rfl (lv_at hl 0 rfl) ?_
    refine lv_iload_n hx hb dL_law_859 rfl (lv_at hl 3 rfl) ?_
    refine lv_iconst (v := 1) hx hb dL_law_860 zki_1 ?_
    refine lv_iadd hx hb dL_law_861 ?_
    refine va_sld hx hb hX hbl hbA L9.2.2.2.2.2.1 hin1 dL_law_862 ?_
    refine lw_call 12 [.int (xs (x3 + 1).toNatClampNeg)] hx hb hml hown hts hl.1 dL_law_863 zl_X12_ask zc_L_121 rfl rfl zk_ok12 rfl (sM_ask_ok hsM) (by decide) (Nat.le_of_ble_eq_true rfl) hK hcs rfl L9.swap (fun H1 locs1 L9 => ?_)
    have L9 := L9.swap
    refine lv_icmp_eq (tgt := 987) hx hb dL_law_866 (by decide) (fun _ => ?_) (fun z => absurd rfl z)
    exact nxt _ _ _ _ _ _ hR1 L9 hl
  rcases Decidable.em (sw = (26 : Int32)) with c26 | c26
  · refine lv_tableIn (off := 839) (tgt := 871) hx hb dL_law_32 (by rw [c26]; decide) (by rw [c26]; decide) (by rw [c26]; decide) rfl ?_
    obtain ⟨v, y1, z1, hsX, hsM, hR1⟩ := pr_rate hR (xs (x3 + 1).toNatClampNeg) (xs (x3 + 2).toNatClampNeg)
    refine lv_aload_n hx hb dL_law_871 rfl (lv_at hl 1 rfl) ?_
    refine lv_aload_n hx hb dL_law_872 rfl (lv_at hl 0 rfl) ?_
    refine lv_iload_n hx hb dL_law_873 rfl (lv_at hl 3 rfl) ?_
    refine lv_iconst (v := 1) hx hb dL_law_874 zki_1 ?_
    refine lv_iadd hx hb dL_law_875 ?_
    refine va_sld hx hb hX hbl hbA L9.2.2.2.2.2.1 hin1 dL_law_876 ?_
    refine lv_aload_n hx hb dL_law_877 rfl (lv_at hl 0 rfl) ?_
    refine lv_iload_n hx hb dL_law_878 rfl (lv_at hl 3 rfl) ?_
    refine lv_iconst (v := 2) hx hb dL_law_879 zki_2 ?_
    refine lv_iadd hx hb dL_law_880 ?_
    refine va_sld hx hb hX hbl hbA L9.2.2.2.2.2.1 hin2 dL_law_881 ?_
    refine lw_call 11 [.int (xs (x3 + 1).toNatClampNeg), .int (xs (x3 + 2).toNatClampNeg)] hx hb hml hown hts hl.1 dL_law_882 zl_X11_rate zc_L_122 rfl rfl zk_ok11 rfl (sX_rate_ok hsX) (by decide) (Nat.le_of_ble_eq_true rfl) hK hcs rfl L9 (fun H1 locs1 L9 => ?_)
    refine lv_aload_n hx hb dL_law_885 rfl (lv_at hl 2 rfl) ?_
    refine lv_aload_n hx hb dL_law_886 rfl (lv_at hl 0 rfl) ?_
    refine lv_iload_n hx hb dL_law_887 rfl (lv_at hl 3 rfl) ?_
    refine lv_iconst (v := 1) hx hb dL_law_888 zki_1 ?_
    refine lv_iadd hx hb dL_law_889 ?_
    refine va_sld hx hb hX hbl hbA L9.2.2.2.2.2.1 hin1 dL_law_890 ?_
    refine lv_aload_n hx hb dL_law_891 rfl (lv_at hl 0 rfl) ?_
    refine lv_iload_n hx hb dL_law_892 rfl (lv_at hl 3 rfl) ?_
    refine lv_iconst (v := 2) hx hb dL_law_893 zki_2 ?_
    refine lv_iadd hx hb dL_law_894 ?_
    refine va_sld hx hb hX hbl hbA L9.2.2.2.2.2.1 hin2 dL_law_895 ?_
    refine lw_call 12 [.int (xs (x3 + 1).toNatClampNeg), .int (xs (x3 + 2).toNatClampNeg)] hx hb hml hown hts hl.1 dL_law_896 zl_X12_rate zc_L_125 rfl rfl zk_ok12 rfl (sM_rate_ok hsM) (by decide) (Nat.le_of_ble_eq_true rfl) hK hcs rfl L9.swap (fun H1 locs1 L9 => ?_)
    have L9 := L9.swap
    refine lv_icmp_eq (tgt := 987) hx hb dL_law_899 (by decide) (fun _ => ?_) (fun z => absurd rfl z)
    exact nxt _ _ _ _ _ _ hR1 L9 hl
  rcases Decidable.em (sw = (27 : Int32)) with c27 | c27
  · refine lv_tableIn (off := 872) (tgt := 904) hx hb dL_law_32 (by rw [c27]; decide) (by rw [c27]; decide) (by rw [c27]; decide) rfl ?_
    obtain ⟨v, y1, z1, hsX, hsM, hR1⟩ := pr_keep hR (xs (x3 + 1).toNatClampNeg)
    refine lv_aload_n hx hb dL_law_904 rfl (lv_at hl 1 rfl) ?_
    refine lv_aload_n hx hb dL_law_905 rfl (lv_at hl 0 rfl) ?_
    refine lv_iload_n hx hb dL_law_906 rfl (lv_at hl 3 rfl) ?_
    refine lv_iconst (v := 1) hx hb dL_law_907 zki_1 ?_
    refine lv_iadd hx hb dL_law_908 ?_
    refine va_sld hx hb hX hbl hbA L9.2.2.2.2.2.1 hin1 dL_law_909 ?_
    refine lw_call 11 [.int (xs (x3 + 1).toNatClampNeg)] hx hb hml hown hts hl.1 dL_law_910 zl_X11_keep zc_L_126 rfl rfl zk_ok11 rfl (sX_keep_ok hsX) (by decide) (Nat.le_of_ble_eq_true rfl) hK hcs rfl L9 (fun H1 locs1 L9 => ?_)
    refine lv_aload_n hx hb dL_law_913 rfl (lv_at hl 2 rfl) ?_
    refine lv_aload_n hx hb dL_law_914 rfl (lv_at hl 0 rfl) ?_
    refine lv_iload_n hx hb dL_law_915 rfl (lv_at hl 3 rfl) ?_
    refine lv_iconst (v := 1) hx hb dL_law_916 zki_1 ?_
    refine lv_iadd hx hb dL_law_917 ?_
    refine va_sld hx hb hX hbl hbA L9.2.2.2.2.2.1 hin1 dL_law_918 ?_
    refine lw_call 12 [.int (xs (x3 + 1).toNatClampNeg)] hx hb hml hown hts hl.1 dL_law_919 zl_X12_keep zc_L_129 rfl rfl zk_ok12 rfl (sM_keep_ok hsM) (by decide) (Nat.le_of_ble_eq_true rfl) hK hcs rfl L9.swap (fun H1 locs1 L9 => ?_)
    have L9 := L9.swap
    refine lv_icmp_eq (tgt := 987) hx hb dL_law_922 (by decide) (fun _ => ?_) (fun z => absurd rfl z)
    exact nxt _ _ _ _ _ _ hR1 L9 hl
  rcases Decidable.em (sw = (28 : Int32)) with c28 | c28
  · refine lv_tableIn (off := 895) (tgt := 927) hx hb dL_law_32 (by rw [c28]; decide) (by rw [c28]; decide) (by rw [c28]; decide) rfl ?_
    obtain ⟨v, y1, z1, hsX, hsM, hR1⟩ := pr_back hR (xs (x3 + 1).toNatClampNeg)
    refine lv_aload_n hx hb dL_law_927 rfl (lv_at hl 1 rfl) ?_
    refine lv_aload_n hx hb dL_law_928 rfl (lv_at hl 0 rfl) ?_
    refine lv_iload_n hx hb dL_law_929 rfl (lv_at hl 3 rfl) ?_
    refine lv_iconst (v := 1) hx hb dL_law_930 zki_1 ?_
    refine lv_iadd hx hb dL_law_931 ?_
    refine va_sld hx hb hX hbl hbA L9.2.2.2.2.2.1 hin1 dL_law_932 ?_
    refine lw_call 11 [.int (xs (x3 + 1).toNatClampNeg)] hx hb hml hown hts hl.1 dL_law_933 zl_X11_back zc_L_130 rfl rfl zk_ok11 rfl (sX_back_ok hsX) (by decide) (Nat.le_of_ble_eq_true rfl) hK hcs rfl L9 (fun H1 locs1 L9 => ?_)
    refine lv_aload_n hx hb dL_law_936 rfl (lv_at hl 2 rfl) ?_
    refine lv_aload_n hx hb dL_law_937 rfl (lv_at hl 0 rfl) ?_
    refine lv_iload_n hx hb dL_law_938 rfl (lv_at hl 3 rfl) ?_
    refine lv_iconst (v := 1) hx hb dL_law_939 zki_1 ?_
    refine lv_iadd hx hb dL_law_940 ?_
    refine va_sld hx hb hX hbl hbA L9.2.2.2.2.2.1 hin1 dL_law_941 ?_
    refine lw_call 12 [.int (xs (x3 + 1).toNatClampNeg)] hx hb hml hown hts hl.1 dL_law_942 zl_X12_back zc_L_133 rfl rfl zk_ok12 rfl (sM_back_ok hsM) (by decide) (Nat.le_of_ble_eq_true rfl) hK hcs rfl L9.swap (fun H1 locs1 L9 => ?_)
    have L9 := L9.swap
    refine lv_icmp_eq (tgt := 987) hx hb dL_law_945 (by decide) (fun _ => ?_) (fun z => absurd rfl z)
    exact nxt _ _ _ _ _ _ hR1 L9 hl
  rcases Decidable.em (sw = (29 : Int32)) with c29 | c29
  · refine lv_tableIn (off := 918) (tgt := 950) hx hb dL_law_32 (by rw [c29]; decide) (by rw [c29]; decide) (by rw [c29]; decide) rfl ?_
    obtain ⟨v, y1, z1, hsX, hsM, hR1⟩ := pr_count hR (xs (x3 + 1).toNatClampNeg)
    refine lv_aload_n hx hb dL_law_950 rfl (lv_at hl 1 rfl) ?_
    refine lv_aload_n hx hb dL_law_951 rfl (lv_at hl 0 rfl) ?_
    refine lv_iload_n hx hb dL_law_952 rfl (lv_at hl 3 rfl) ?_
    refine lv_iconst (v := 1) hx hb dL_law_953 zki_1 ?_
    refine lv_iadd hx hb dL_law_954 ?_
    refine va_sld hx hb hX hbl hbA L9.2.2.2.2.2.1 hin1 dL_law_955 ?_
    refine lw_call 11 [.int (xs (x3 + 1).toNatClampNeg)] hx hb hml hown hts hl.1 dL_law_956 zl_X11_count zc_L_134 rfl rfl zk_ok11 rfl (sX_count_ok hsX) (by decide) (Nat.le_of_ble_eq_true rfl) hK hcs rfl L9 (fun H1 locs1 L9 => ?_)
    refine lv_aload_n hx hb dL_law_959 rfl (lv_at hl 2 rfl) ?_
    refine lv_aload_n hx hb dL_law_960 rfl (lv_at hl 0 rfl) ?_
    refine lv_iload_n hx hb dL_law_961 rfl (lv_at hl 3 rfl) ?_
    refine lv_iconst (v := 1) hx hb dL_law_962 zki_1 ?_
    refine lv_iadd hx hb dL_law_963 ?_
    refine va_sld hx hb hX hbl hbA L9.2.2.2.2.2.1 hin1 dL_law_964 ?_
    refine lw_call 12 [.int (xs (x3 + 1).toNatClampNeg)] hx hb hml hown hts hl.1 dL_law_965 zl_X12_count zc_L_137 rfl rfl zk_ok12 rfl (sM_count_ok hsM) (by decide) (Nat.le_of_ble_eq_true rfl) hK hcs rfl L9.swap (fun H1 locs1 L9 => ?_)
    have L9 := L9.swap
    refine lv_icmp_eq (tgt := 987) hx hb dL_law_968 (by decide) (fun _ => ?_) (fun z => absurd rfl z)
    exact nxt _ _ _ _ _ _ hR1 L9 hl
  rcases Decidable.em (sw = (30 : Int32)) with c30 | c30
  · refine lv_tableIn (off := 941) (tgt := 973) hx hb dL_law_32 (by rw [c30]; decide) (by rw [c30]; decide) (by rw [c30]; decide) rfl ?_
    obtain ⟨v, y1, z1, hsX, hsM, hR1⟩ := pr_trace hR
    refine lv_aload_n hx hb dL_law_973 rfl (lv_at hl 1 rfl) ?_
    refine lw_call 11 [] hx hb hml hown hts hl.1 dL_law_974 zl_X11_trace zc_L_138 rfl rfl zk_ok11 rfl (sX_trace_ok hsX) (by decide) (Nat.le_of_ble_eq_true rfl) hK hcs rfl L9 (fun H1 locs1 L9 => ?_)
    refine lv_aload_n hx hb dL_law_977 rfl (lv_at hl 2 rfl) ?_
    refine lw_call 12 [] hx hb hml hown hts hl.1 dL_law_978 zl_X12_trace zc_L_142 rfl rfl zk_ok12 rfl (sM_trace_ok hsM) (by decide) (Nat.le_of_ble_eq_true rfl) hK hcs rfl L9.swap (fun H1 locs1 L9 => ?_)
    have L9 := L9.swap
    refine W.lcmp hx hb dL_law_981 ?_
    refine lv_if_eq (tgt := 987) hx hb dL_law_982 (by decide) (fun _ => ?_) (fun z => absurd (lw_cmp _) z)
    exact nxt _ _ _ _ _ _ hR1 L9 hl
  have hout : sw.toInt < 0 ∨ 30 < sw.toInt := by
    have := lv_neT c0 (a := 0) (by decide)
    have := lv_neT c1 (a := 1) (by decide)
    have := lv_neT c2 (a := 2) (by decide)
    have := lv_neT c3 (a := 3) (by decide)
    have := lv_neT c4 (a := 4) (by decide)
    have := lv_neT c5 (a := 5) (by decide)
    have := lv_neT c6 (a := 6) (by decide)
    have := lv_neT c7 (a := 7) (by decide)
    have := lv_neT c8 (a := 8) (by decide)
    have := lv_neT c9 (a := 9) (by decide)
    have := lv_neT c10 (a := 10) (by decide)
    have := lv_neT c11 (a := 11) (by decide)
    have := lv_neT c12 (a := 12) (by decide)
    have := lv_neT c13 (a := 13) (by decide)
    have := lv_neT c14 (a := 14) (by decide)
    have := lv_neT c15 (a := 15) (by decide)
    have := lv_neT c16 (a := 16) (by decide)
    have := lv_neT c17 (a := 17) (by decide)
    have := lv_neT c18 (a := 18) (by decide)
    have := lv_neT c19 (a := 19) (by decide)
    have := lv_neT c20 (a := 20) (by decide)
    have := lv_neT c21 (a := 21) (by decide)
    have := lv_neT c22 (a := 22) (by decide)
    have := lv_neT c23 (a := 23) (by decide)
    have := lv_neT c24 (a := 24) (by decide)
    have := lv_neT c25 (a := 25) (by decide)
    have := lv_neT c26 (a := 26) (by decide)
    have := lv_neT c27 (a := 27) (by decide)
    have := lv_neT c28 (a := 28) (by decide)
    have := lv_neT c29 (a := 29) (by decide)
    have := lv_neT c30 (a := 30) (by decide)
    omega
  refine lv_tableOut (tgt := 987) hx hb dL_law_32 hout rfl ?_
  exact nxt _ _ _ _ _ _ hR L9 hl
theorem lw_len : ∀ L, L ≤ 320 → (Int32.ofNat L - 5).toInt = (L : Int) - 5 := by decide +kernel
set_option maxHeartbeats 8000000 in
set_option maxRecDepth 100000 in
/-- the law's loop -/
theorem law_loop {p : Program} {l : Launch} {e : Env} {s : State} {m : MethodId} {below : List Frame} {meth : Method} {c : Code} {b L : Nat} {xs : Nat → Int32} (hL : L ≤ 320) (C0 : lw_At p s m meth c b L xs) {D : va_G} {κ : Nat → ClassId} (hK : va_K D vwCl (zk_tys κ) s) : ∀ (n i : Nat) (x3 : Int32), x3 = nI i → i ≤ L + 5 → L < i + 5 * n + 5 → ∀ (y z : zkM) (α β : Nat → Nat) (H : Heap) (locs : List Loc), zRel y z → lw_2 zSX zSM D κ s α β y z H locs → ∀ ls : Array Slot, lv_has ls 4 [(0, .ref b), (1, .ref (α 0)), (2, .ref (β 0)), (3, .int x3)] → W p l e room_1 s m #[Value.ref b] below meth c H locs 84 2370 (lw_Z below #[Value.ref b] s) (F0 m 18 ls []) := by
  obtain ⟨hx, hb, hr, hml, hown, hts, hX, hbl, hlocks, hgv⟩ := id C0
  have hbA : ¬ lw_A0 s b := Nat.not_le.mpr hbl
  have hcs : 84 ≤ room_1.cells ∧ 2370 ≤ room_1.slots := by decide
  intro n
  induction n with
  | zero =>
    intro i x3 ex3 hi hn y z α β H locs hR L9 ls hl
    refine lv_iload_n hx hb dL_law_18 rfl (lv_at hl 3 rfl) ?_
    refine lv_aload_n hx hb dL_law_19 rfl (lv_at hl 0 rfl) ?_
    refine va_slen hx hb hX hbl hbA L9.2.2.2.2.2.1 dL_law_20 ?_
    refine lv_iconst (v := 5) hx hb dL_law_21 zki_5 ?_
    refine lv_isub hx hb dL_law_22 ?_
    refine lv_icmp_gt (tgt := 993) hx hb dL_law_23 (by decide) (fun c9 => ?_) (fun c9 => ?_)
    · refine lv_iconst (v := 1) hx hb dL_law_993 zki_1 ?_
      refine va_forget (fun q hq => L9.2.2.2.2.2.1.2.2 q hq) ?_
      refine W.widen (k := 600000) (n := 7302249) (by decide) (by decide) ?_
      exact lw_ret hx hb hr hlocks dL_law_994
    · exact absurd (by rw [Int32.lt_iff_toInt_lt, lw_len L hL, ex3, nI_toInt (by omega)]; omega) c9
  | succ n ih =>
    intro i x3 ex3 hi hn y z α β H locs hR L9 ls hl
    refine lv_iload_n hx hb dL_law_18 rfl (lv_at hl 3 rfl) ?_
    refine lv_aload_n hx hb dL_law_19 rfl (lv_at hl 0 rfl) ?_
    refine va_slen hx hb hX hbl hbA L9.2.2.2.2.2.1 dL_law_20 ?_
    refine lv_iconst (v := 5) hx hb dL_law_21 zki_5 ?_
    refine lv_isub hx hb dL_law_22 ?_
    refine lv_icmp_gt (tgt := 993) hx hb dL_law_23 (by decide) (fun c9 => ?_) (fun c9 => ?_)
    · refine lv_iconst (v := 1) hx hb dL_law_993 zki_1 ?_
      refine va_forget (fun q hq => L9.2.2.2.2.2.1.2.2 q hq) ?_
      refine W.widen (k := 600000) (n := 7302249) (by decide) (by decide) ?_
      exact lw_ret hx hb hr hlocks dL_law_994
    have hi5 : i + 5 ≤ L := by
      rw [Int32.lt_iff_toInt_lt, lw_len L hL, ex3, nI_toInt (by omega)] at c9
      omega
    have hin0 : vp_in x3 L := by rw [ex3]; exact vp_in_nI (by omega) (by omega)
    have hin1 : vp_in (x3 + 1) L := by rw [ex3, show (1 : Int32) = nI 1 from rfl, nI_add]; exact vp_in_nI (by omega) (by omega)
    have hin2 : vp_in (x3 + 2) L := by rw [ex3, show (2 : Int32) = nI 2 from rfl, nI_add]; exact vp_in_nI (by omega) (by omega)
    have hin3 : vp_in (x3 + 3) L := by rw [ex3, show (3 : Int32) = nI 3 from rfl, nI_add]; exact vp_in_nI (by omega) (by omega)
    have hin4 : vp_in (x3 + 4) L := by rw [ex3, show (4 : Int32) = nI 4 from rfl, nI_add]; exact vp_in_nI (by omega) (by omega)
    have nxt : ∀ (y z : zkM) (α β : Nat → Nat) (H : Heap) (locs : List Loc), zRel y z → lw_2 zSX zSM D κ s α β y z H locs → lv_has ls 4 [(0, .ref b), (1, .ref (α 0)), (2, .ref (β 0)), (3, .int x3)] → W p l e room_1 s m #[Value.ref b] below meth c H locs 84 2370 (lw_Z below #[Value.ref b] s) (F0 m 987 ls []) := by
      intro y z α β H locs hR L9 hl
      refine lv_iinc (v := x3 + 5) (lv' := [(3, .int (x3 + 5)), (0, .ref b), (1, .ref (α 0)), (2, .ref (β 0))]) hx hb dL_law_987 hl (k := 3) rfl (by rw [zki_5]) (by decide) rfl (fun ls hl => ?_)
      refine lv_goto (tgt := 18) hx hb dL_law_990 (by decide) ?_
      exact ih (i + 5) (x3 + 5) (by rw [ex3, show (5 : Int32) = nI 5 from rfl, nI_add]) (by omega) (by omega) y z α β H locs hR L9 ls (lv_sub hl [1, 2, 3, 0] rfl)
    refine lv_aload_n hx hb dL_law_26 rfl (lv_at hl 0 rfl) ?_
    refine lv_iload_n hx hb dL_law_27 rfl (lv_at hl 3 rfl) ?_
    refine va_sld hx hb hX hbl hbA L9.2.2.2.2.2.1 hin0 dL_law_28 ?_
    refine lv_bipush (v := 31) hx hb dL_law_29 zkb_31 ?_
    refine lv_iand hx hb dL_law_31 ?_
    exact law_switch hL C0 hK hR L9 hl hin1 hin2 hin3 hin4 nxt
