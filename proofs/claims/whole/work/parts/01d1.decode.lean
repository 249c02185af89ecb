theorem dX0_init_0 : decode cX0_init 0 = .ok (.aload_n 0, 1) := by decide +kernel
theorem dX0_init_1 : decode cX0_init 1 = .ok (.invokespecial 3, 3) := by decide +kernel
theorem dX0_init_4 : decode cX0_init 4 = .ok (.aload_n 0, 1) := by decide +kernel
theorem dX0_init_5 : decode cX0_init 5 = .ok (.iconst 2, 1) := by decide +kernel
theorem dX0_init_6 : decode cX0_init 6 = .ok (.bipush 42, 2) := by decide +kernel
theorem dX0_init_8 : decode cX0_init 8 = .ok (.multianewarray 11 2, 4) := by decide +kernel
theorem dX0_init_12 : decode cX0_init 12 = .ok (.putfield 13, 3) := by decide +kernel
theorem dX0_init_15 : decode cX0_init 15 = .ok (.aload_n 0, 1) := by decide +kernel
theorem dX0_init_16 : decode cX0_init 16 = .ok (.iconst 2, 1) := by decide +kernel
theorem dX0_init_17 : decode cX0_init 17 = .ok (.newarray .boolean, 2) := by decide +kernel
theorem dX0_init_19 : decode cX0_init 19 = .ok (.putfield 18, 3) := by decide +kernel
theorem dX0_init_22 : decode cX0_init 22 = .ok (.return_, 1) := by decide +kernel
theorem dX0_paint_0 : decode cX0_paint 0 = .ok (.aload_n 2, 1) := by decide +kernel
theorem dX0_paint_1 : decode cX0_paint 1 = .ok (.aload_n 0, 1) := by decide +kernel
theorem dX0_paint_2 : decode cX0_paint 2 = .ok (.getfield 13, 3) := by decide +kernel
theorem dX0_paint_5 : decode cX0_paint 5 = .ok (.iload_n 1, 1) := by decide +kernel
theorem dX0_paint_6 : decode cX0_paint 6 = .ok (.aaload, 1) := by decide +kernel
theorem dX0_paint_7 : decode cX0_paint 7 = .ok (.invokevirtual 22, 3) := by decide +kernel
theorem dX0_paint_10 : decode cX0_paint 10 = .ok (.aload_n 0, 1) := by decide +kernel
theorem dX0_paint_11 : decode cX0_paint 11 = .ok (.getfield 18, 3) := by decide +kernel
theorem dX0_paint_14 : decode cX0_paint 14 = .ok (.iload_n 1, 1) := by decide +kernel
theorem dX0_paint_15 : decode cX0_paint 15 = .ok (.iconst 1, 1) := by decide +kernel
theorem dX0_paint_16 : decode cX0_paint 16 = .ok (.bastore, 1) := by decide +kernel
theorem dX0_paint_17 : decode cX0_paint 17 = .ok (.return_, 1) := by decide +kernel
theorem dX0_show_0 : decode cX0_show 0 = .ok (.aload_n 0, 1) := by decide +kernel
theorem dX0_show_1 : decode cX0_show 1 = .ok (.getfield 18, 3) := by decide +kernel
theorem dX0_show_4 : decode cX0_show 4 = .ok (.iload_n 1, 1) := by decide +kernel
theorem dX0_show_5 : decode cX0_show 5 = .ok (.baload, 1) := by decide +kernel
theorem dX0_show_6 : decode cX0_show 6 = .ok (.ifCond .ne 5, 3) := by decide +kernel
theorem dX0_show_9 : decode cX0_show 9 = .ok (.iconst 0, 1) := by decide +kernel
theorem dX0_show_10 : decode cX0_show 10 = .ok (.ireturn, 1) := by decide +kernel
theorem dX0_show_11 : decode cX0_show 11 = .ok (.aload_n 2, 1) := by decide +kernel
theorem dX0_show_12 : decode cX0_show 12 = .ok (.aload_n 0, 1) := by decide +kernel
theorem dX0_show_13 : decode cX0_show 13 = .ok (.getfield 13, 3) := by decide +kernel
theorem dX0_show_16 : decode cX0_show 16 = .ok (.iload_n 1, 1) := by decide +kernel
theorem dX0_show_17 : decode cX0_show 17 = .ok (.aaload, 1) := by decide +kernel
theorem dX0_show_18 : decode cX0_show 18 = .ok (.invokevirtual 26, 3) := by decide +kernel
theorem dX0_show_21 : decode cX0_show 21 = .ok (.iconst 1, 1) := by decide +kernel
theorem dX0_show_22 : decode cX0_show 22 = .ok (.ireturn, 1) := by decide +kernel
theorem dX0_lose_0 : decode cX0_lose 0 = .ok (.iconst 0, 1) := by decide +kernel
theorem dX0_lose_1 : decode cX0_lose 1 = .ok (.istore_n 1, 1) := by decide +kernel
theorem dX0_lose_2 : decode cX0_lose 2 = .ok (.iload_n 1, 1) := by decide +kernel
theorem dX0_lose_3 : decode cX0_lose 3 = .ok (.iconst 2, 1) := by decide +kernel
theorem dX0_lose_4 : decode cX0_lose 4 = .ok (.if_icmp .ge 16, 3) := by decide +kernel
theorem dX0_lose_7 : decode cX0_lose 7 = .ok (.aload_n 0, 1) := by decide +kernel
theorem dX0_lose_8 : decode cX0_lose 8 = .ok (.getfield 18, 3) := by decide +kernel
theorem dX0_lose_11 : decode cX0_lose 11 = .ok (.iload_n 1, 1) := by decide +kernel
theorem dX0_lose_12 : decode cX0_lose 12 = .ok (.iconst 0, 1) := by decide +kernel
theorem dX0_lose_13 : decode cX0_lose 13 = .ok (.bastore, 1) := by decide +kernel
theorem dX0_lose_14 : decode cX0_lose 14 = .ok (.iinc 1 1, 3) := by decide +kernel
theorem dX0_lose_17 : decode cX0_lose 17 = .ok (.goto (-15), 3) := by decide +kernel
theorem dX0_lose_20 : decode cX0_lose 20 = .ok (.return_, 1) := by decide +kernel
theorem dX1_init_0 : decode cX1_init 0 = .ok (.aload_n 0, 1) := by decide +kernel
theorem dX1_init_1 : decode cX1_init 1 = .ok (.invokespecial 3, 3) := by decide +kernel
theorem dX1_init_4 : decode cX1_init 4 = .ok (.aload_n 0, 1) := by decide +kernel
theorem dX1_init_5 : decode cX1_init 5 = .ok (.bipush 6, 2) := by decide +kernel
theorem dX1_init_7 : decode cX1_init 7 = .ok (.newarray .int, 2) := by decide +kernel
theorem dX1_init_9 : decode cX1_init 9 = .ok (.putfield 9, 3) := by decide +kernel
theorem dX1_init_12 : decode cX1_init 12 = .ok (.aload_n 0, 1) := by decide +kernel
theorem dX1_init_13 : decode cX1_init 13 = .ok (.bipush 8, 2) := by decide +kernel
theorem dX1_init_15 : decode cX1_init 15 = .ok (.newarray .int, 2) := by decide +kernel
theorem dX1_init_17 : decode cX1_init 17 = .ok (.putfield 15, 3) := by decide +kernel
theorem dX1_init_20 : decode cX1_init 20 = .ok (.return_, 1) := by decide +kernel
theorem dX1_empty_0 : decode cX1_empty 0 = .ok (.iconst 0, 1) := by decide +kernel
theorem dX1_empty_1 : decode cX1_empty 1 = .ok (.istore_n 1, 1) := by decide +kernel
theorem dX1_empty_2 : decode cX1_empty 2 = .ok (.iload_n 1, 1) := by decide +kernel
theorem dX1_empty_3 : decode cX1_empty 3 = .ok (.bipush 6, 2) := by decide +kernel
theorem dX1_empty_5 : decode cX1_empty 5 = .ok (.if_icmp .ge 16, 3) := by decide +kernel
theorem dX1_empty_8 : decode cX1_empty 8 = .ok (.aload_n 0, 1) := by decide +kernel
theorem dX1_empty_9 : decode cX1_empty 9 = .ok (.getfield 9, 3) := by decide +kernel
theorem dX1_empty_12 : decode cX1_empty 12 = .ok (.iload_n 1, 1) := by decide +kernel
theorem dX1_empty_13 : decode cX1_empty 13 = .ok (.iconst 0, 1) := by decide +kernel
theorem dX1_empty_14 : decode cX1_empty 14 = .ok (.iastore, 1) := by decide +kernel
theorem dX1_empty_15 : decode cX1_empty 15 = .ok (.iinc 1 1, 3) := by decide +kernel
theorem dX1_empty_18 : decode cX1_empty 18 = .ok (.goto (-16), 3) := by decide +kernel
theorem dX1_empty_21 : decode cX1_empty 21 = .ok (.iconst 0, 1) := by decide +kernel
theorem dX1_empty_22 : decode cX1_empty 22 = .ok (.istore_n 1, 1) := by decide +kernel
theorem dX1_empty_23 : decode cX1_empty 23 = .ok (.iload_n 1, 1) := by decide +kernel
theorem dX1_empty_24 : decode cX1_empty 24 = .ok (.bipush 8, 2) := by decide +kernel
theorem dX1_empty_26 : decode cX1_empty 26 = .ok (.if_icmp .ge 16, 3) := by decide +kernel
theorem dX1_empty_29 : decode cX1_empty 29 = .ok (.aload_n 0, 1) := by decide +kernel
theorem dX1_empty_30 : decode cX1_empty 30 = .ok (.getfield 15, 3) := by decide +kernel
theorem dX1_empty_33 : decode cX1_empty 33 = .ok (.iload_n 1, 1) := by decide +kernel
theorem dX1_empty_34 : decode cX1_empty 34 = .ok (.iconst 0, 1) := by decide +kernel
theorem dX1_empty_35 : decode cX1_empty 35 = .ok (.iastore, 1) := by decide +kernel
theorem dX1_empty_36 : decode cX1_empty 36 = .ok (.iinc 1 1, 3) := by decide +kernel
theorem dX1_empty_39 : decode cX1_empty 39 = .ok (.goto (-16), 3) := by decide +kernel
theorem dX1_empty_42 : decode cX1_empty 42 = .ok (.return_, 1) := by decide +kernel
theorem dX1_weigh_0 : decode cX1_weigh 0 = .ok (.aload_n 0, 1) := by decide +kernel
theorem dX1_weigh_1 : decode cX1_weigh 1 = .ok (.invokevirtual 18, 3) := by decide +kernel
theorem dX1_weigh_4 : decode cX1_weigh 4 = .ok (.iconst 0, 1) := by decide +kernel
theorem dX1_weigh_5 : decode cX1_weigh 5 = .ok (.istore_n 3, 1) := by decide +kernel
theorem dX1_weigh_6 : decode cX1_weigh 6 = .ok (.iload_n 3, 1) := by decide +kernel
theorem dX1_weigh_7 : decode cX1_weigh 7 = .ok (.aload_n 1, 1) := by decide +kernel
theorem dX1_weigh_8 : decode cX1_weigh 8 = .ok (.getfield 21, 3) := by decide +kernel
theorem dX1_weigh_11 : decode cX1_weigh 11 = .ok (.if_icmp .ge 44, 3) := by decide +kernel
theorem dX1_weigh_14 : decode cX1_weigh 14 = .ok (.aload_n 2, 1) := by decide +kernel
theorem dX1_weigh_15 : decode cX1_weigh 15 = .ok (.iload_n 3, 1) := by decide +kernel
theorem dX1_weigh_16 : decode cX1_weigh 16 = .ok (.invokevirtual 27, 3) := by decide +kernel
theorem dX1_weigh_19 : decode cX1_weigh 19 = .ok (.istore 4, 2) := by decide +kernel
theorem dX1_weigh_21 : decode cX1_weigh 21 = .ok (.iload 4, 2) := by decide +kernel
theorem dX1_weigh_23 : decode cX1_weigh 23 = .ok (.iconst 0, 1) := by decide +kernel
theorem dX1_weigh_24 : decode cX1_weigh 24 = .ok (.aload_n 1, 1) := by decide +kernel
theorem dX1_weigh_25 : decode cX1_weigh 25 = .ok (.getfield 33, 3) := by decide +kernel
theorem dX1_weigh_28 : decode cX1_weigh 28 = .ok (.iconst 1, 1) := by decide +kernel
theorem dX1_weigh_29 : decode cX1_weigh 29 = .ok (.isub, 1) := by decide +kernel
theorem dX1_weigh_30 : decode cX1_weigh 30 = .ok (.invokestatic 36, 3) := by decide +kernel
theorem dX1_weigh_33 : decode cX1_weigh 33 = .ok (.ifCond .eq 16, 3) := by decide +kernel
theorem dX1_weigh_36 : decode cX1_weigh 36 = .ok (.aload_n 0, 1) := by decide +kernel
theorem dX1_weigh_37 : decode cX1_weigh 37 = .ok (.aload_n 1, 1) := by decide +kernel
theorem dX1_weigh_38 : decode cX1_weigh 38 = .ok (.iload 4, 2) := by decide +kernel
theorem dX1_weigh_40 : decode cX1_weigh 40 = .ok (.aload_n 1, 1) := by decide +kernel
theorem dX1_weigh_41 : decode cX1_weigh 41 = .ok (.getfield 40, 3) := by decide +kernel
theorem dX1_weigh_44 : decode cX1_weigh 44 = .ok (.iload_n 3, 1) := by decide +kernel
theorem dX1_weigh_45 : decode cX1_weigh 45 = .ok (.iaload, 1) := by decide +kernel
theorem dX1_weigh_46 : decode cX1_weigh 46 = .ok (.invokevirtual 43, 3) := by decide +kernel
theorem dX1_weigh_49 : decode cX1_weigh 49 = .ok (.iinc 3 1, 3) := by decide +kernel
theorem dX1_weigh_52 : decode cX1_weigh 52 = .ok (.goto (-46), 3) := by decide +kernel
theorem dX1_weigh_55 : decode cX1_weigh 55 = .ok (.return_, 1) := by decide +kernel
theorem dX1_add_0 : decode cX1_add 0 = .ok (.aload_n 1, 1) := by decide +kernel
theorem dX1_add_1 : decode cX1_add 1 = .ok (.getfield 47, 3) := by decide +kernel
theorem dX1_add_4 : decode cX1_add 4 = .ok (.iconst 2, 1) := by decide +kernel
theorem dX1_add_5 : decode cX1_add 5 = .ok (.iload_n 2, 1) := by decide +kernel
theorem dX1_add_6 : decode cX1_add 6 = .ok (.imul, 1) := by decide +kernel
theorem dX1_add_7 : decode cX1_add 7 = .ok (.iaload, 1) := by decide +kernel
theorem dX1_add_8 : decode cX1_add 8 = .ok (.istore 4, 2) := by decide +kernel
theorem dX1_add_10 : decode cX1_add 10 = .ok (.aload_n 1, 1) := by decide +kernel
theorem dX1_add_11 : decode cX1_add 11 = .ok (.getfield 47, 3) := by decide +kernel
theorem dX1_add_14 : decode cX1_add 14 = .ok (.iconst 2, 1) := by decide +kernel
theorem dX1_add_15 : decode cX1_add 15 = .ok (.iload_n 2, 1) := by decide +kernel
theorem dX1_add_16 : decode cX1_add 16 = .ok (.imul, 1) := by decide +kernel
theorem dX1_add_17 : decode cX1_add 17 = .ok (.iconst 1, 1) := by decide +kernel
theorem dX1_add_18 : decode cX1_add 18 = .ok (.iadd, 1) := by decide +kernel
theorem dX1_add_19 : decode cX1_add 19 = .ok (.iaload, 1) := by decide +kernel
theorem dX1_add_20 : decode cX1_add 20 = .ok (.istore 5, 2) := by decide +kernel
theorem dX1_add_22 : decode cX1_add 22 = .ok (.aload_n 0, 1) := by decide +kernel
theorem dX1_add_23 : decode cX1_add 23 = .ok (.getfield 15, 3) := by decide +kernel
theorem dX1_add_26 : decode cX1_add 26 = .ok (.iload 4, 2) := by decide +kernel
theorem dX1_add_28 : decode cX1_add 28 = .ok (.dup2, 1) := by decide +kernel
theorem dX1_add_29 : decode cX1_add 29 = .ok (.iaload, 1) := by decide +kernel
theorem dX1_add_30 : decode cX1_add 30 = .ok (.aload_n 0, 1) := by decide +kernel
theorem dX1_add_31 : decode cX1_add 31 = .ok (.getfield 9, 3) := by decide +kernel
theorem dX1_add_34 : decode cX1_add 34 = .ok (.iload_n 2, 1) := by decide +kernel
theorem dX1_add_35 : decode cX1_add 35 = .ok (.iaload, 1) := by decide +kernel
theorem dX1_add_36 : decode cX1_add 36 = .ok (.aload_n 0, 1) := by decide +kernel
theorem dX1_add_37 : decode cX1_add 37 = .ok (.getfield 9, 3) := by decide +kernel
theorem dX1_add_40 : decode cX1_add 40 = .ok (.iload_n 2, 1) := by decide +kernel
theorem dX1_add_41 : decode cX1_add 41 = .ok (.iaload, 1) := by decide +kernel
theorem dX1_add_42 : decode cX1_add 42 = .ok (.iconst 2, 1) := by decide +kernel
theorem dX1_add_43 : decode cX1_add 43 = .ok (.idiv, 1) := by decide +kernel
theorem dX1_add_44 : decode cX1_add 44 = .ok (.isub, 1) := by decide +kernel
theorem dX1_add_45 : decode cX1_add 45 = .ok (.isub, 1) := by decide +kernel
theorem dX1_add_46 : decode cX1_add 46 = .ok (.iastore, 1) := by decide +kernel
theorem dX1_add_47 : decode cX1_add 47 = .ok (.aload_n 0, 1) := by decide +kernel
theorem dX1_add_48 : decode cX1_add 48 = .ok (.getfield 15, 3) := by decide +kernel
theorem dX1_add_51 : decode cX1_add 51 = .ok (.iload 5, 2) := by decide +kernel
theorem dX1_add_53 : decode cX1_add 53 = .ok (.dup2, 1) := by decide +kernel
theorem dX1_add_54 : decode cX1_add 54 = .ok (.iaload, 1) := by decide +kernel
theorem dX1_add_55 : decode cX1_add 55 = .ok (.aload_n 0, 1) := by decide +kernel
theorem dX1_add_56 : decode cX1_add 56 = .ok (.getfield 9, 3) := by decide +kernel
theorem dX1_add_59 : decode cX1_add 59 = .ok (.iload_n 2, 1) := by decide +kernel
theorem dX1_add_60 : decode cX1_add 60 = .ok (.iaload, 1) := by decide +kernel
theorem dX1_add_61 : decode cX1_add 61 = .ok (.iconst 2, 1) := by decide +kernel
theorem dX1_add_62 : decode cX1_add 62 = .ok (.idiv, 1) := by decide +kernel
theorem dX1_add_63 : decode cX1_add 63 = .ok (.isub, 1) := by decide +kernel
theorem dX1_add_64 : decode cX1_add 64 = .ok (.iastore, 1) := by decide +kernel
theorem dX1_add_65 : decode cX1_add 65 = .ok (.aload_n 0, 1) := by decide +kernel
theorem dX1_add_66 : decode cX1_add 66 = .ok (.getfield 9, 3) := by decide +kernel
theorem dX1_add_69 : decode cX1_add 69 = .ok (.iload_n 2, 1) := by decide +kernel
theorem dX1_add_70 : decode cX1_add 70 = .ok (.dup2, 1) := by decide +kernel
theorem dX1_add_71 : decode cX1_add 71 = .ok (.iaload, 1) := by decide +kernel
theorem dX1_add_72 : decode cX1_add 72 = .ok (.iload_n 3, 1) := by decide +kernel
theorem dX1_add_73 : decode cX1_add 73 = .ok (.iadd, 1) := by decide +kernel
theorem dX1_add_74 : decode cX1_add 74 = .ok (.iastore, 1) := by decide +kernel
theorem dX1_add_75 : decode cX1_add 75 = .ok (.aload_n 0, 1) := by decide +kernel
theorem dX1_add_76 : decode cX1_add 76 = .ok (.getfield 15, 3) := by decide +kernel
theorem dX1_add_79 : decode cX1_add 79 = .ok (.iload 4, 2) := by decide +kernel
theorem dX1_add_81 : decode cX1_add 81 = .ok (.dup2, 1) := by decide +kernel
theorem dX1_add_82 : decode cX1_add 82 = .ok (.iaload, 1) := by decide +kernel
theorem dX1_add_83 : decode cX1_add 83 = .ok (.aload_n 0, 1) := by decide +kernel
theorem dX1_add_84 : decode cX1_add 84 = .ok (.getfield 9, 3) := by decide +kernel
theorem dX1_add_87 : decode cX1_add 87 = .ok (.iload_n 2, 1) := by decide +kernel
theorem dX1_add_88 : decode cX1_add 88 = .ok (.iaload, 1) := by decide +kernel
theorem dX1_add_89 : decode cX1_add 89 = .ok (.aload_n 0, 1) := by decide +kernel
theorem dX1_add_90 : decode cX1_add 90 = .ok (.getfield 9, 3) := by decide +kernel
theorem dX1_add_93 : decode cX1_add 93 = .ok (.iload_n 2, 1) := by decide +kernel
theorem dX1_add_94 : decode cX1_add 94 = .ok (.iaload, 1) := by decide +kernel
theorem dX1_add_95 : decode cX1_add 95 = .ok (.iconst 2, 1) := by decide +kernel
theorem dX1_add_96 : decode cX1_add 96 = .ok (.idiv, 1) := by decide +kernel
theorem dX1_add_97 : decode cX1_add 97 = .ok (.isub, 1) := by decide +kernel
theorem dX1_add_98 : decode cX1_add 98 = .ok (.iadd, 1) := by decide +kernel
theorem dX1_add_99 : decode cX1_add 99 = .ok (.iastore, 1) := by decide +kernel
theorem dX1_add_100 : decode cX1_add 100 = .ok (.aload_n 0, 1) := by decide +kernel
theorem dX1_add_101 : decode cX1_add 101 = .ok (.getfield 15, 3) := by decide +kernel
theorem dX1_add_104 : decode cX1_add 104 = .ok (.iload 5, 2) := by decide +kernel
theorem dX1_add_106 : decode cX1_add 106 = .ok (.dup2, 1) := by decide +kernel
theorem dX1_add_107 : decode cX1_add 107 = .ok (.iaload, 1) := by decide +kernel
theorem dX1_add_108 : decode cX1_add 108 = .ok (.aload_n 0, 1) := by decide +kernel
theorem dX1_add_109 : decode cX1_add 109 = .ok (.getfield 9, 3) := by decide +kernel
theorem dX1_add_112 : decode cX1_add 112 = .ok (.iload_n 2, 1) := by decide +kernel
theorem dX1_add_113 : decode cX1_add 113 = .ok (.iaload, 1) := by decide +kernel
theorem dX1_add_114 : decode cX1_add 114 = .ok (.iconst 2, 1) := by decide +kernel
theorem dX1_add_115 : decode cX1_add 115 = .ok (.idiv, 1) := by decide +kernel
theorem dX1_add_116 : decode cX1_add 116 = .ok (.iadd, 1) := by decide +kernel
theorem dX1_add_117 : decode cX1_add 117 = .ok (.iastore, 1) := by decide +kernel
theorem dX1_add_118 : decode cX1_add 118 = .ok (.return_, 1) := by decide +kernel
theorem dX1_fits_0 : decode cX1_fits 0 = .ok (.aload_n 1, 1) := by decide +kernel
theorem dX1_fits_1 : decode cX1_fits 1 = .ok (.getfield 47, 3) := by decide +kernel
theorem dX1_fits_4 : decode cX1_fits 4 = .ok (.iconst 2, 1) := by decide +kernel
theorem dX1_fits_5 : decode cX1_fits 5 = .ok (.iload_n 2, 1) := by decide +kernel
theorem dX1_fits_6 : decode cX1_fits 6 = .ok (.imul, 1) := by decide +kernel
theorem dX1_fits_7 : decode cX1_fits 7 = .ok (.iaload, 1) := by decide +kernel
theorem dX1_fits_8 : decode cX1_fits 8 = .ok (.istore_n 3, 1) := by decide +kernel
theorem dX1_fits_9 : decode cX1_fits 9 = .ok (.aload_n 1, 1) := by decide +kernel
theorem dX1_fits_10 : decode cX1_fits 10 = .ok (.getfield 47, 3) := by decide +kernel
theorem dX1_fits_13 : decode cX1_fits 13 = .ok (.iconst 2, 1) := by decide +kernel
theorem dX1_fits_14 : decode cX1_fits 14 = .ok (.iload_n 2, 1) := by decide +kernel
theorem dX1_fits_15 : decode cX1_fits 15 = .ok (.imul, 1) := by decide +kernel
theorem dX1_fits_16 : decode cX1_fits 16 = .ok (.iconst 1, 1) := by decide +kernel
theorem dX1_fits_17 : decode cX1_fits 17 = .ok (.iadd, 1) := by decide +kernel
theorem dX1_fits_18 : decode cX1_fits 18 = .ok (.iaload, 1) := by decide +kernel
theorem dX1_fits_19 : decode cX1_fits 19 = .ok (.istore 4, 2) := by decide +kernel
theorem dX1_fits_21 : decode cX1_fits 21 = .ok (.aload_n 0, 1) := by decide +kernel
theorem dX1_fits_22 : decode cX1_fits 22 = .ok (.getfield 9, 3) := by decide +kernel
theorem dX1_fits_25 : decode cX1_fits 25 = .ok (.iload_n 2, 1) := by decide +kernel
theorem dX1_fits_26 : decode cX1_fits 26 = .ok (.iaload, 1) := by decide +kernel
theorem dX1_fits_27 : decode cX1_fits 27 = .ok (.aload_n 1, 1) := by decide +kernel
theorem dX1_fits_28 : decode cX1_fits 28 = .ok (.getfield 50, 3) := by decide +kernel
theorem dX1_fits_31 : decode cX1_fits 31 = .ok (.iload_n 2, 1) := by decide +kernel
theorem dX1_fits_32 : decode cX1_fits 32 = .ok (.iaload, 1) := by decide +kernel
theorem dX1_fits_33 : decode cX1_fits 33 = .ok (.if_icmp .gt 39, 3) := by decide +kernel
theorem dX1_fits_36 : decode cX1_fits 36 = .ok (.aload_n 0, 1) := by decide +kernel
theorem dX1_fits_37 : decode cX1_fits 37 = .ok (.getfield 15, 3) := by decide +kernel
theorem dX1_fits_40 : decode cX1_fits 40 = .ok (.iload_n 3, 1) := by decide +kernel
theorem dX1_fits_41 : decode cX1_fits 41 = .ok (.iaload, 1) := by decide +kernel
theorem dX1_fits_42 : decode cX1_fits 42 = .ok (.aload_n 1, 1) := by decide +kernel
theorem dX1_fits_43 : decode cX1_fits 43 = .ok (.getfield 53, 3) := by decide +kernel
theorem dX1_fits_46 : decode cX1_fits 46 = .ok (.iload_n 3, 1) := by decide +kernel
theorem dX1_fits_47 : decode cX1_fits 47 = .ok (.iaload, 1) := by decide +kernel
theorem dX1_fits_48 : decode cX1_fits 48 = .ok (.if_icmp .gt 24, 3) := by decide +kernel
theorem dX1_fits_51 : decode cX1_fits 51 = .ok (.aload_n 0, 1) := by decide +kernel
theorem dX1_fits_52 : decode cX1_fits 52 = .ok (.getfield 15, 3) := by decide +kernel
theorem dX1_fits_55 : decode cX1_fits 55 = .ok (.iload 4, 2) := by decide +kernel
theorem dX1_fits_57 : decode cX1_fits 57 = .ok (.iaload, 1) := by decide +kernel
theorem dX1_fits_58 : decode cX1_fits 58 = .ok (.aload_n 1, 1) := by decide +kernel
theorem dX1_fits_59 : decode cX1_fits 59 = .ok (.getfield 53, 3) := by decide +kernel
theorem dX1_fits_62 : decode cX1_fits 62 = .ok (.iload 4, 2) := by decide +kernel
theorem dX1_fits_64 : decode cX1_fits 64 = .ok (.iaload, 1) := by decide +kernel
theorem dX1_fits_65 : decode cX1_fits 65 = .ok (.if_icmp .gt 7, 3) := by decide +kernel
theorem dX1_fits_68 : decode cX1_fits 68 = .ok (.iconst 1, 1) := by decide +kernel
theorem dX1_fits_69 : decode cX1_fits 69 = .ok (.goto 4, 3) := by decide +kernel
theorem dX1_fits_72 : decode cX1_fits 72 = .ok (.iconst 0, 1) := by decide +kernel
theorem dX1_fits_73 : decode cX1_fits 73 = .ok (.ireturn, 1) := by decide +kernel
theorem dX1_allHold_0 : decode cX1_allHold 0 = .ok (.aload_n 0, 1) := by decide +kernel
theorem dX1_allHold_1 : decode cX1_allHold 1 = .ok (.aload_n 1, 1) := by decide +kernel
theorem dX1_allHold_2 : decode cX1_allHold 2 = .ok (.invokevirtual 56, 3) := by decide +kernel
theorem dX1_allHold_5 : decode cX1_allHold 5 = .ok (.bipush (-9), 2) := by decide +kernel
theorem dX1_allHold_7 : decode cX1_allHold 7 = .ok (.if_icmp .ne 28, 3) := by decide +kernel
theorem dX1_allHold_10 : decode cX1_allHold 10 = .ok (.aload_n 0, 1) := by decide +kernel
theorem dX1_allHold_11 : decode cX1_allHold 11 = .ok (.aload_n 1, 1) := by decide +kernel
theorem dX1_allHold_12 : decode cX1_allHold 12 = .ok (.invokevirtual 60, 3) := by decide +kernel
theorem dX1_allHold_15 : decode cX1_allHold 15 = .ok (.bipush (-9), 2) := by decide +kernel
theorem dX1_allHold_17 : decode cX1_allHold 17 = .ok (.if_icmp .ne 18, 3) := by decide +kernel
theorem dX1_allHold_20 : decode cX1_allHold 20 = .ok (.aload_n 0, 1) := by decide +kernel
theorem dX1_allHold_21 : decode cX1_allHold 21 = .ok (.aload_n 1, 1) := by decide +kernel
theorem dX1_allHold_22 : decode cX1_allHold 22 = .ok (.aload_n 2, 1) := by decide +kernel
theorem dX1_allHold_23 : decode cX1_allHold 23 = .ok (.invokevirtual 63, 3) := by decide +kernel
theorem dX1_allHold_26 : decode cX1_allHold 26 = .ok (.bipush (-9), 2) := by decide +kernel
theorem dX1_allHold_28 : decode cX1_allHold 28 = .ok (.if_icmp .ne 7, 3) := by decide +kernel
theorem dX1_allHold_31 : decode cX1_allHold 31 = .ok (.iconst 1, 1) := by decide +kernel
theorem dX1_allHold_32 : decode cX1_allHold 32 = .ok (.goto 4, 3) := by decide +kernel
theorem dX1_allHold_35 : decode cX1_allHold 35 = .ok (.iconst 0, 1) := by decide +kernel
theorem dX1_allHold_36 : decode cX1_allHold 36 = .ok (.ireturn, 1) := by decide +kernel
theorem dX1_firstTooLaden_0 : decode cX1_firstTooLaden 0 = .ok (.iconst 0, 1) := by decide +kernel
theorem dX1_firstTooLaden_1 : decode cX1_firstTooLaden 1 = .ok (.istore_n 2, 1) := by decide +kernel
theorem dX1_firstTooLaden_2 : decode cX1_firstTooLaden 2 = .ok (.iload_n 2, 1) := by decide +kernel
theorem dX1_firstTooLaden_3 : decode cX1_firstTooLaden 3 = .ok (.aload_n 1, 1) := by decide +kernel
theorem dX1_firstTooLaden_4 : decode cX1_firstTooLaden 4 = .ok (.getfield 33, 3) := by decide +kernel
theorem dX1_firstTooLaden_7 : decode cX1_firstTooLaden 7 = .ok (.if_icmp .ge 26, 3) := by decide +kernel
theorem dX1_firstTooLaden_10 : decode cX1_firstTooLaden 10 = .ok (.aload_n 0, 1) := by decide +kernel
theorem dX1_firstTooLaden_11 : decode cX1_firstTooLaden 11 = .ok (.getfield 9, 3) := by decide +kernel
theorem dX1_firstTooLaden_14 : decode cX1_firstTooLaden 14 = .ok (.iload_n 2, 1) := by decide +kernel
theorem dX1_firstTooLaden_15 : decode cX1_firstTooLaden 15 = .ok (.iaload, 1) := by decide +kernel
theorem dX1_firstTooLaden_16 : decode cX1_firstTooLaden 16 = .ok (.aload_n 1, 1) := by decide +kernel
theorem dX1_firstTooLaden_17 : decode cX1_firstTooLaden 17 = .ok (.getfield 50, 3) := by decide +kernel
theorem dX1_firstTooLaden_20 : decode cX1_firstTooLaden 20 = .ok (.iload_n 2, 1) := by decide +kernel
theorem dX1_firstTooLaden_21 : decode cX1_firstTooLaden 21 = .ok (.iaload, 1) := by decide +kernel
theorem dX1_firstTooLaden_22 : decode cX1_firstTooLaden 22 = .ok (.if_icmp .le 5, 3) := by decide +kernel
theorem dX1_firstTooLaden_25 : decode cX1_firstTooLaden 25 = .ok (.iload_n 2, 1) := by decide +kernel
theorem dX1_firstTooLaden_26 : decode cX1_firstTooLaden 26 = .ok (.ireturn, 1) := by decide +kernel
theorem dX1_firstTooLaden_27 : decode cX1_firstTooLaden 27 = .ok (.iinc 2 1, 3) := by decide +kernel
theorem dX1_firstTooLaden_30 : decode cX1_firstTooLaden 30 = .ok (.goto (-28), 3) := by decide +kernel
theorem dX1_firstTooLaden_33 : decode cX1_firstTooLaden 33 = .ok (.bipush (-9), 2) := by decide +kernel
theorem dX1_firstTooLaden_35 : decode cX1_firstTooLaden 35 = .ok (.ireturn, 1) := by decide +kernel
theorem dX1_firstTooBent_0 : decode cX1_firstTooBent 0 = .ok (.iconst 0, 1) := by decide +kernel
theorem dX1_firstTooBent_1 : decode cX1_firstTooBent 1 = .ok (.istore_n 2, 1) := by decide +kernel
theorem dX1_firstTooBent_2 : decode cX1_firstTooBent 2 = .ok (.iload_n 2, 1) := by decide +kernel
theorem dX1_firstTooBent_3 : decode cX1_firstTooBent 3 = .ok (.aload_n 1, 1) := by decide +kernel
theorem dX1_firstTooBent_4 : decode cX1_firstTooBent 4 = .ok (.getfield 67, 3) := by decide +kernel
theorem dX1_firstTooBent_7 : decode cX1_firstTooBent 7 = .ok (.if_icmp .ge 26, 3) := by decide +kernel
theorem dX1_firstTooBent_10 : decode cX1_firstTooBent 10 = .ok (.aload_n 0, 1) := by decide +kernel
theorem dX1_firstTooBent_11 : decode cX1_firstTooBent 11 = .ok (.getfield 15, 3) := by decide +kernel
theorem dX1_firstTooBent_14 : decode cX1_firstTooBent 14 = .ok (.iload_n 2, 1) := by decide +kernel
theorem dX1_firstTooBent_15 : decode cX1_firstTooBent 15 = .ok (.iaload, 1) := by decide +kernel
theorem dX1_firstTooBent_16 : decode cX1_firstTooBent 16 = .ok (.aload_n 1, 1) := by decide +kernel
theorem dX1_firstTooBent_17 : decode cX1_firstTooBent 17 = .ok (.getfield 53, 3) := by decide +kernel
theorem dX1_firstTooBent_20 : decode cX1_firstTooBent 20 = .ok (.iload_n 2, 1) := by decide +kernel
theorem dX1_firstTooBent_21 : decode cX1_firstTooBent 21 = .ok (.iaload, 1) := by decide +kernel
theorem dX1_firstTooBent_22 : decode cX1_firstTooBent 22 = .ok (.if_icmp .le 5, 3) := by decide +kernel
theorem dX1_firstTooBent_25 : decode cX1_firstTooBent 25 = .ok (.iload_n 2, 1) := by decide +kernel
theorem dX1_firstTooBent_26 : decode cX1_firstTooBent 26 = .ok (.ireturn, 1) := by decide +kernel
theorem dX1_firstTooBent_27 : decode cX1_firstTooBent 27 = .ok (.iinc 2 1, 3) := by decide +kernel
theorem dX1_firstTooBent_30 : decode cX1_firstTooBent 30 = .ok (.goto (-28), 3) := by decide +kernel
theorem dX1_firstTooBent_33 : decode cX1_firstTooBent 33 = .ok (.bipush (-9), 2) := by decide +kernel
theorem dX1_firstTooBent_35 : decode cX1_firstTooBent 35 = .ok (.ireturn, 1) := by decide +kernel
theorem dX1_firstUnheld_0 : decode cX1_firstUnheld 0 = .ok (.iconst 0, 1) := by decide +kernel
theorem dX1_firstUnheld_1 : decode cX1_firstUnheld 1 = .ok (.istore_n 3, 1) := by decide +kernel
theorem dX1_firstUnheld_2 : decode cX1_firstUnheld 2 = .ok (.iload_n 3, 1) := by decide +kernel
theorem dX1_firstUnheld_3 : decode cX1_firstUnheld 3 = .ok (.aload_n 1, 1) := by decide +kernel
theorem dX1_firstUnheld_4 : decode cX1_firstUnheld 4 = .ok (.getfield 33, 3) := by decide +kernel
theorem dX1_firstUnheld_7 : decode cX1_firstUnheld 7 = .ok (.if_icmp .ge 28, 3) := by decide +kernel
theorem dX1_firstUnheld_10 : decode cX1_firstUnheld 10 = .ok (.aload_n 0, 1) := by decide +kernel
theorem dX1_firstUnheld_11 : decode cX1_firstUnheld 11 = .ok (.getfield 9, 3) := by decide +kernel
theorem dX1_firstUnheld_14 : decode cX1_firstUnheld 14 = .ok (.iload_n 3, 1) := by decide +kernel
theorem dX1_firstUnheld_15 : decode cX1_firstUnheld 15 = .ok (.iaload, 1) := by decide +kernel
theorem dX1_firstUnheld_16 : decode cX1_firstUnheld 16 = .ok (.ifCond .le 13, 3) := by decide +kernel
theorem dX1_firstUnheld_19 : decode cX1_firstUnheld 19 = .ok (.aload_n 2, 1) := by decide +kernel
theorem dX1_firstUnheld_20 : decode cX1_firstUnheld 20 = .ok (.iload_n 3, 1) := by decide +kernel
theorem dX1_firstUnheld_21 : decode cX1_firstUnheld 21 = .ok (.invokevirtual 70, 3) := by decide +kernel
theorem dX1_firstUnheld_24 : decode cX1_firstUnheld 24 = .ok (.ifCond .ne 5, 3) := by decide +kernel
theorem dX1_firstUnheld_27 : decode cX1_firstUnheld 27 = .ok (.iload_n 3, 1) := by decide +kernel
theorem dX1_firstUnheld_28 : decode cX1_firstUnheld 28 = .ok (.ireturn, 1) := by decide +kernel
theorem dX1_firstUnheld_29 : decode cX1_firstUnheld 29 = .ok (.iinc 3 1, 3) := by decide +kernel
theorem dX1_firstUnheld_32 : decode cX1_firstUnheld 32 = .ok (.goto (-30), 3) := by decide +kernel
theorem dX1_firstUnheld_35 : decode cX1_firstUnheld 35 = .ok (.bipush (-9), 2) := by decide +kernel
theorem dX1_firstUnheld_37 : decode cX1_firstUnheld 37 = .ok (.ireturn, 1) := by decide +kernel
theorem dX2_init_0 : decode cX2_init 0 = .ok (.aload_n 0, 1) := by decide +kernel
theorem dX2_init_1 : decode cX2_init 1 = .ok (.invokespecial 3, 3) := by decide +kernel
theorem dX2_init_4 : decode cX2_init 4 = .ok (.aload_n 0, 1) := by decide +kernel
theorem dX2_init_5 : decode cX2_init 5 = .ok (.bipush 36, 2) := by decide +kernel
theorem dX2_init_7 : decode cX2_init 7 = .ok (.newarray .long, 2) := by decide +kernel
theorem dX2_init_9 : decode cX2_init 9 = .ok (.putfield 11, 3) := by decide +kernel
theorem dX2_init_12 : decode cX2_init 12 = .ok (.aload_n 0, 1) := by decide +kernel
theorem dX2_init_13 : decode cX2_init 13 = .ok (.bipush 36, 2) := by decide +kernel
theorem dX2_init_15 : decode cX2_init 15 = .ok (.newarray .long, 2) := by decide +kernel
theorem dX2_init_17 : decode cX2_init 17 = .ok (.putfield 15, 3) := by decide +kernel
theorem dX2_init_20 : decode cX2_init 20 = .ok (.return_, 1) := by decide +kernel
theorem dX2_allWays_0 : decode cX2_allWays 0 = .ok (.lconst 1, 1) := by decide +kernel
theorem dX2_allWays_1 : decode cX2_allWays 1 = .ok (.lstore_n 1, 1) := by decide +kernel
theorem dX2_allWays_2 : decode cX2_allWays 2 = .ok (.iconst 0, 1) := by decide +kernel
theorem dX2_allWays_3 : decode cX2_allWays 3 = .ok (.istore_n 3, 1) := by decide +kernel
theorem dX2_allWays_4 : decode cX2_allWays 4 = .ok (.iload_n 3, 1) := by decide +kernel
theorem dX2_allWays_5 : decode cX2_allWays 5 = .ok (.iload_n 0, 1) := by decide +kernel
theorem dX2_allWays_6 : decode cX2_allWays 6 = .ok (.if_icmp .ge 15, 3) := by decide +kernel
theorem dX2_allWays_9 : decode cX2_allWays 9 = .ok (.lload_n 1, 1) := by decide +kernel
theorem dX2_allWays_10 : decode cX2_allWays 10 = .ok (.ldc2_w 18, 3) := by decide +kernel
theorem dX2_allWays_13 : decode cX2_allWays 13 = .ok (.lmul, 1) := by decide +kernel
theorem dX2_allWays_14 : decode cX2_allWays 14 = .ok (.lstore_n 1, 1) := by decide +kernel
theorem dX2_allWays_15 : decode cX2_allWays 15 = .ok (.iinc 3 1, 3) := by decide +kernel
theorem dX2_allWays_18 : decode cX2_allWays 18 = .ok (.goto (-14), 3) := by decide +kernel
theorem dX2_allWays_21 : decode cX2_allWays 21 = .ok (.lload_n 1, 1) := by decide +kernel
theorem dX2_allWays_22 : decode cX2_allWays 22 = .ok (.lreturn, 1) := by decide +kernel
theorem dX2_waysToStay_0 : decode cX2_waysToStay 0 = .ok (.iload_n 1, 1) := by decide +kernel
theorem dX2_waysToStay_1 : decode cX2_waysToStay 1 = .ok (.ifCond .ne 9, 3) := by decide +kernel
theorem dX2_waysToStay_4 : decode cX2_waysToStay 4 = .ok (.iload 4, 2) := by decide +kernel
theorem dX2_waysToStay_6 : decode cX2_waysToStay 6 = .ok (.invokestatic 20, 3) := by decide +kernel
theorem dX2_waysToStay_9 : decode cX2_waysToStay 9 = .ok (.lreturn, 1) := by decide +kernel
theorem dX2_waysToStay_10 : decode cX2_waysToStay 10 = .ok (.iload_n 1, 1) := by decide +kernel
theorem dX2_waysToStay_11 : decode cX2_waysToStay 11 = .ok (.invokestatic 24, 3) := by decide +kernel
theorem dX2_waysToStay_14 : decode cX2_waysToStay 14 = .ok (.bipush 36, 2) := by decide +kernel
theorem dX2_waysToStay_16 : decode cX2_waysToStay 16 = .ok (.invokestatic 28, 3) := by decide +kernel
theorem dX2_waysToStay_19 : decode cX2_waysToStay 19 = .ok (.istore 5, 2) := by decide +kernel
theorem dX2_waysToStay_21 : decode cX2_waysToStay 21 = .ok (.iconst 0, 1) := by decide +kernel
theorem dX2_waysToStay_22 : decode cX2_waysToStay 22 = .ok (.istore 6, 2) := by decide +kernel
theorem dX2_waysToStay_24 : decode cX2_waysToStay 24 = .ok (.iload 6, 2) := by decide +kernel
theorem dX2_waysToStay_26 : decode cX2_waysToStay 26 = .ok (.bipush 36, 2) := by decide +kernel
theorem dX2_waysToStay_28 : decode cX2_waysToStay 28 = .ok (.if_icmp .ge 27, 3) := by decide +kernel
theorem dX2_waysToStay_31 : decode cX2_waysToStay 31 = .ok (.aload_n 0, 1) := by decide +kernel
theorem dX2_waysToStay_32 : decode cX2_waysToStay 32 = .ok (.getfield 11, 3) := by decide +kernel
theorem dX2_waysToStay_35 : decode cX2_waysToStay 35 = .ok (.iload 6, 2) := by decide +kernel
theorem dX2_waysToStay_37 : decode cX2_waysToStay 37 = .ok (.iload 6, 2) := by decide +kernel
theorem dX2_waysToStay_39 : decode cX2_waysToStay 39 = .ok (.iload_n 2, 1) := by decide +kernel
theorem dX2_waysToStay_40 : decode cX2_waysToStay 40 = .ok (.if_icmp .ne 7, 3) := by decide +kernel
theorem dX2_waysToStay_43 : decode cX2_waysToStay 43 = .ok (.lconst 1, 1) := by decide +kernel
theorem dX2_waysToStay_44 : decode cX2_waysToStay 44 = .ok (.goto 4, 3) := by decide +kernel
theorem dX2_waysToStay_47 : decode cX2_waysToStay 47 = .ok (.lconst 0, 1) := by decide +kernel
theorem dX2_waysToStay_48 : decode cX2_waysToStay 48 = .ok (.lastore, 1) := by decide +kernel
theorem dX2_waysToStay_49 : decode cX2_waysToStay 49 = .ok (.iinc 6 1, 3) := by decide +kernel
theorem dX2_waysToStay_52 : decode cX2_waysToStay 52 = .ok (.goto (-28), 3) := by decide +kernel
theorem dX2_waysToStay_55 : decode cX2_waysToStay 55 = .ok (.iconst 0, 1) := by decide +kernel
theorem dX2_waysToStay_56 : decode cX2_waysToStay 56 = .ok (.istore 6, 2) := by decide +kernel
theorem dX2_waysToStay_58 : decode cX2_waysToStay 58 = .ok (.iload 6, 2) := by decide +kernel
theorem dX2_waysToStay_60 : decode cX2_waysToStay 60 = .ok (.iload 4, 2) := by decide +kernel
theorem dX2_waysToStay_62 : decode cX2_waysToStay 62 = .ok (.if_icmp .ge 17, 3) := by decide +kernel
theorem dX2_waysToStay_65 : decode cX2_waysToStay 65 = .ok (.aload_n 0, 1) := by decide +kernel
theorem dX2_waysToStay_66 : decode cX2_waysToStay 66 = .ok (.iload_n 1, 1) := by decide +kernel
theorem dX2_waysToStay_67 : decode cX2_waysToStay 67 = .ok (.iload_n 3, 1) := by decide +kernel
theorem dX2_waysToStay_68 : decode cX2_waysToStay 68 = .ok (.iload 5, 2) := by decide +kernel
theorem dX2_waysToStay_70 : decode cX2_waysToStay 70 = .ok (.invokevirtual 34, 3) := by decide +kernel
theorem dX2_waysToStay_73 : decode cX2_waysToStay 73 = .ok (.iinc 6 1, 3) := by decide +kernel
theorem dX2_waysToStay_76 : decode cX2_waysToStay 76 = .ok (.goto (-18), 3) := by decide +kernel
theorem dX2_waysToStay_79 : decode cX2_waysToStay 79 = .ok (.lconst 0, 1) := by decide +kernel
theorem dX2_waysToStay_80 : decode cX2_waysToStay 80 = .ok (.lstore 6, 2) := by decide +kernel
theorem dX2_waysToStay_82 : decode cX2_waysToStay 82 = .ok (.iconst 0, 1) := by decide +kernel
theorem dX2_waysToStay_83 : decode cX2_waysToStay 83 = .ok (.istore 8, 2) := by decide +kernel
theorem dX2_waysToStay_85 : decode cX2_waysToStay 85 = .ok (.iload 8, 2) := by decide +kernel
theorem dX2_waysToStay_87 : decode cX2_waysToStay 87 = .ok (.iload 5, 2) := by decide +kernel
theorem dX2_waysToStay_89 : decode cX2_waysToStay 89 = .ok (.if_icmp .ge 21, 3) := by decide +kernel
theorem dX2_waysToStay_92 : decode cX2_waysToStay 92 = .ok (.lload 6, 2) := by decide +kernel
theorem dX2_waysToStay_94 : decode cX2_waysToStay 94 = .ok (.aload_n 0, 1) := by decide +kernel
theorem dX2_waysToStay_95 : decode cX2_waysToStay 95 = .ok (.getfield 11, 3) := by decide +kernel
theorem dX2_waysToStay_98 : decode cX2_waysToStay 98 = .ok (.iload 8, 2) := by decide +kernel
theorem dX2_waysToStay_100 : decode cX2_waysToStay 100 = .ok (.laload, 1) := by decide +kernel
theorem dX2_waysToStay_101 : decode cX2_waysToStay 101 = .ok (.ladd, 1) := by decide +kernel
theorem dX2_waysToStay_102 : decode cX2_waysToStay 102 = .ok (.lstore 6, 2) := by decide +kernel
theorem dX2_waysToStay_104 : decode cX2_waysToStay 104 = .ok (.iinc 8 1, 3) := by decide +kernel
theorem dX2_waysToStay_107 : decode cX2_waysToStay 107 = .ok (.goto (-22), 3) := by decide +kernel
theorem dX2_waysToStay_110 : decode cX2_waysToStay 110 = .ok (.lload 6, 2) := by decide +kernel
theorem dX2_waysToStay_112 : decode cX2_waysToStay 112 = .ok (.lreturn, 1) := by decide +kernel
theorem dX2_blowOnce_0 : decode cX2_blowOnce 0 = .ok (.iconst 0, 1) := by decide +kernel
theorem dX2_blowOnce_1 : decode cX2_blowOnce 1 = .ok (.istore 4, 2) := by decide +kernel
theorem dX2_blowOnce_3 : decode cX2_blowOnce 3 = .ok (.iload 4, 2) := by decide +kernel
theorem dX2_blowOnce_5 : decode cX2_blowOnce 5 = .ok (.bipush 36, 2) := by decide +kernel
theorem dX2_blowOnce_7 : decode cX2_blowOnce 7 = .ok (.if_icmp .ge 17, 3) := by decide +kernel
theorem dX2_blowOnce_10 : decode cX2_blowOnce 10 = .ok (.aload_n 0, 1) := by decide +kernel
theorem dX2_blowOnce_11 : decode cX2_blowOnce 11 = .ok (.getfield 15, 3) := by decide +kernel
theorem dX2_blowOnce_14 : decode cX2_blowOnce 14 = .ok (.iload 4, 2) := by decide +kernel
theorem dX2_blowOnce_16 : decode cX2_blowOnce 16 = .ok (.lconst 0, 1) := by decide +kernel
theorem dX2_blowOnce_17 : decode cX2_blowOnce 17 = .ok (.lastore, 1) := by decide +kernel
theorem dX2_blowOnce_18 : decode cX2_blowOnce 18 = .ok (.iinc 4 1, 3) := by decide +kernel
theorem dX2_blowOnce_21 : decode cX2_blowOnce 21 = .ok (.goto (-18), 3) := by decide +kernel
theorem dX2_blowOnce_24 : decode cX2_blowOnce 24 = .ok (.iconst 1, 1) := by decide +kernel
theorem dX2_blowOnce_25 : decode cX2_blowOnce 25 = .ok (.istore 4, 2) := by decide +kernel
theorem dX2_blowOnce_27 : decode cX2_blowOnce 27 = .ok (.iload 4, 2) := by decide +kernel
theorem dX2_blowOnce_29 : decode cX2_blowOnce 29 = .ok (.bipush 6, 2) := by decide +kernel
theorem dX2_blowOnce_31 : decode cX2_blowOnce 31 = .ok (.if_icmp .gt 56, 3) := by decide +kernel
theorem dX2_blowOnce_34 : decode cX2_blowOnce 34 = .ok (.iload_n 1, 1) := by decide +kernel
theorem dX2_blowOnce_35 : decode cX2_blowOnce 35 = .ok (.iload_n 2, 1) := by decide +kernel
theorem dX2_blowOnce_36 : decode cX2_blowOnce 36 = .ok (.iload 4, 2) := by decide +kernel
theorem dX2_blowOnce_38 : decode cX2_blowOnce 38 = .ok (.invokestatic 38, 3) := by decide +kernel
theorem dX2_blowOnce_41 : decode cX2_blowOnce 41 = .ok (.istore 5, 2) := by decide +kernel
theorem dX2_blowOnce_43 : decode cX2_blowOnce 43 = .ok (.iconst 0, 1) := by decide +kernel
theorem dX2_blowOnce_44 : decode cX2_blowOnce 44 = .ok (.istore 6, 2) := by decide +kernel
theorem dX2_blowOnce_46 : decode cX2_blowOnce 46 = .ok (.iload 6, 2) := by decide +kernel
theorem dX2_blowOnce_48 : decode cX2_blowOnce 48 = .ok (.iload 5, 2) := by decide +kernel
theorem dX2_blowOnce_50 : decode cX2_blowOnce 50 = .ok (.iadd, 1) := by decide +kernel
theorem dX2_blowOnce_51 : decode cX2_blowOnce 51 = .ok (.iload_n 3, 1) := by decide +kernel
theorem dX2_blowOnce_52 : decode cX2_blowOnce 52 = .ok (.if_icmp .ge 29, 3) := by decide +kernel
theorem dX2_blowOnce_55 : decode cX2_blowOnce 55 = .ok (.aload_n 0, 1) := by decide +kernel
theorem dX2_blowOnce_56 : decode cX2_blowOnce 56 = .ok (.getfield 15, 3) := by decide +kernel
theorem dX2_blowOnce_59 : decode cX2_blowOnce 59 = .ok (.iload 6, 2) := by decide +kernel
theorem dX2_blowOnce_61 : decode cX2_blowOnce 61 = .ok (.iload 5, 2) := by decide +kernel
theorem dX2_blowOnce_63 : decode cX2_blowOnce 63 = .ok (.iadd, 1) := by decide +kernel
theorem dX2_blowOnce_64 : decode cX2_blowOnce 64 = .ok (.dup2, 1) := by decide +kernel
theorem dX2_blowOnce_65 : decode cX2_blowOnce 65 = .ok (.laload, 1) := by decide +kernel
theorem dX2_blowOnce_66 : decode cX2_blowOnce 66 = .ok (.aload_n 0, 1) := by decide +kernel
theorem dX2_blowOnce_67 : decode cX2_blowOnce 67 = .ok (.getfield 11, 3) := by decide +kernel
theorem dX2_blowOnce_70 : decode cX2_blowOnce 70 = .ok (.iload 6, 2) := by decide +kernel
theorem dX2_blowOnce_72 : decode cX2_blowOnce 72 = .ok (.laload, 1) := by decide +kernel
theorem dX2_blowOnce_73 : decode cX2_blowOnce 73 = .ok (.ladd, 1) := by decide +kernel
theorem dX2_blowOnce_74 : decode cX2_blowOnce 74 = .ok (.lastore, 1) := by decide +kernel
theorem dX2_blowOnce_75 : decode cX2_blowOnce 75 = .ok (.iinc 6 1, 3) := by decide +kernel
theorem dX2_blowOnce_78 : decode cX2_blowOnce 78 = .ok (.goto (-32), 3) := by decide +kernel
theorem dX2_blowOnce_81 : decode cX2_blowOnce 81 = .ok (.iinc 4 1, 3) := by decide +kernel
theorem dX2_blowOnce_84 : decode cX2_blowOnce 84 = .ok (.goto (-57), 3) := by decide +kernel
theorem dX2_blowOnce_87 : decode cX2_blowOnce 87 = .ok (.aload_n 0, 1) := by decide +kernel
theorem dX2_blowOnce_88 : decode cX2_blowOnce 88 = .ok (.getfield 15, 3) := by decide +kernel
theorem dX2_blowOnce_91 : decode cX2_blowOnce 91 = .ok (.iconst 0, 1) := by decide +kernel
theorem dX2_blowOnce_92 : decode cX2_blowOnce 92 = .ok (.aload_n 0, 1) := by decide +kernel
theorem dX2_blowOnce_93 : decode cX2_blowOnce 93 = .ok (.getfield 11, 3) := by decide +kernel
theorem dX2_blowOnce_96 : decode cX2_blowOnce 96 = .ok (.iconst 0, 1) := by decide +kernel
theorem dX2_blowOnce_97 : decode cX2_blowOnce 97 = .ok (.bipush 36, 2) := by decide +kernel
theorem dX2_blowOnce_99 : decode cX2_blowOnce 99 = .ok (.invokestatic 42, 3) := by decide +kernel
theorem dX2_blowOnce_102 : decode cX2_blowOnce 102 = .ok (.return_, 1) := by decide +kernel
theorem dX2_greatestShared_0 : decode cX2_greatestShared 0 = .ok (.iconst 0, 1) := by decide +kernel
theorem dX2_greatestShared_1 : decode cX2_greatestShared 1 = .ok (.istore 4, 2) := by decide +kernel
theorem dX2_greatestShared_3 : decode cX2_greatestShared 3 = .ok (.iload 4, 2) := by decide +kernel
theorem dX2_greatestShared_5 : decode cX2_greatestShared 5 = .ok (.sipush 128, 3) := by decide +kernel
theorem dX2_greatestShared_8 : decode cX2_greatestShared 8 = .ok (.if_icmp .ge 25, 3) := by decide +kernel
theorem dX2_greatestShared_11 : decode cX2_greatestShared 11 = .ok (.lload_n 2, 1) := by decide +kernel
theorem dX2_greatestShared_12 : decode cX2_greatestShared 12 = .ok (.lconst 0, 1) := by decide +kernel
theorem dX2_greatestShared_13 : decode cX2_greatestShared 13 = .ok (.lcmp, 1) := by decide +kernel
theorem dX2_greatestShared_14 : decode cX2_greatestShared 14 = .ok (.ifCond .eq 19, 3) := by decide +kernel
theorem dX2_greatestShared_17 : decode cX2_greatestShared 17 = .ok (.lload_n 0, 1) := by decide +kernel
theorem dX2_greatestShared_18 : decode cX2_greatestShared 18 = .ok (.lload_n 2, 1) := by decide +kernel
theorem dX2_greatestShared_19 : decode cX2_greatestShared 19 = .ok (.lrem, 1) := by decide +kernel
theorem dX2_greatestShared_20 : decode cX2_greatestShared 20 = .ok (.lstore 5, 2) := by decide +kernel
theorem dX2_greatestShared_22 : decode cX2_greatestShared 22 = .ok (.lload_n 2, 1) := by decide +kernel
theorem dX2_greatestShared_23 : decode cX2_greatestShared 23 = .ok (.lstore_n 0, 1) := by decide +kernel
theorem dX2_greatestShared_24 : decode cX2_greatestShared 24 = .ok (.lload 5, 2) := by decide +kernel
theorem dX2_greatestShared_26 : decode cX2_greatestShared 26 = .ok (.lstore_n 2, 1) := by decide +kernel
theorem dX2_greatestShared_27 : decode cX2_greatestShared 27 = .ok (.iinc 4 1, 3) := by decide +kernel
theorem dX2_greatestShared_30 : decode cX2_greatestShared 30 = .ok (.goto (-27), 3) := by decide +kernel
theorem dX2_greatestShared_33 : decode cX2_greatestShared 33 = .ok (.lload_n 0, 1) := by decide +kernel
theorem dX2_greatestShared_34 : decode cX2_greatestShared 34 = .ok (.lreturn, 1) := by decide +kernel
theorem dX3_init_0 : decode cX3_init 0 = .ok (.aload_n 0, 1) := by decide +kernel
theorem dX3_init_1 : decode cX3_init 1 = .ok (.invokespecial 3, 3) := by decide +kernel
theorem dX3_init_4 : decode cX3_init 4 = .ok (.aload_n 0, 1) := by decide +kernel
theorem dX3_init_5 : decode cX3_init 5 = .ok (.new 9, 3) := by decide +kernel
theorem dX3_init_8 : decode cX3_init 8 = .ok (.dup, 1) := by decide +kernel
theorem dX3_init_9 : decode cX3_init 9 = .ok (.invokespecial 11, 3) := by decide +kernel
theorem dX3_init_12 : decode cX3_init 12 = .ok (.putfield 12, 3) := by decide +kernel
theorem dX3_init_15 : decode cX3_init 15 = .ok (.return_, 1) := by decide +kernel
theorem dX3_galesToFirstOut_0 : decode cX3_galesToFirstOut 0 = .ok (.aload_n 0, 1) := by decide +kernel
theorem dX3_galesToFirstOut_1 : decode cX3_galesToFirstOut 1 = .ok (.getfield 12, 3) := by decide +kernel
theorem dX3_galesToFirstOut_4 : decode cX3_galesToFirstOut 4 = .ok (.aload_n 2, 1) := by decide +kernel
theorem dX3_galesToFirstOut_5 : decode cX3_galesToFirstOut 5 = .ok (.getfield 18, 3) := by decide +kernel
theorem dX3_galesToFirstOut_8 : decode cX3_galesToFirstOut 8 = .ok (.invokevirtual 22, 3) := by decide +kernel
theorem dX3_galesToFirstOut_11 : decode cX3_galesToFirstOut 11 = .ok (.aload_n 2, 1) := by decide +kernel
theorem dX3_galesToFirstOut_12 : decode cX3_galesToFirstOut 12 = .ok (.aload_n 1, 1) := by decide +kernel
theorem dX3_galesToFirstOut_13 : decode cX3_galesToFirstOut 13 = .ok (.invokevirtual 26, 3) := by decide +kernel
theorem dX3_galesToFirstOut_16 : decode cX3_galesToFirstOut 16 = .ok (.istore 4, 2) := by decide +kernel
theorem dX3_galesToFirstOut_18 : decode cX3_galesToFirstOut 18 = .ok (.iconst 1, 1) := by decide +kernel
theorem dX3_galesToFirstOut_19 : decode cX3_galesToFirstOut 19 = .ok (.istore 5, 2) := by decide +kernel
theorem dX3_galesToFirstOut_21 : decode cX3_galesToFirstOut 21 = .ok (.iload 5, 2) := by decide +kernel
theorem dX3_galesToFirstOut_23 : decode cX3_galesToFirstOut 23 = .ok (.bipush 60, 2) := by decide +kernel
theorem dX3_galesToFirstOut_25 : decode cX3_galesToFirstOut 25 = .ok (.if_icmp .gt 34, 3) := by decide +kernel
theorem dX3_galesToFirstOut_28 : decode cX3_galesToFirstOut 28 = .ok (.aload_n 0, 1) := by decide +kernel
theorem dX3_galesToFirstOut_29 : decode cX3_galesToFirstOut 29 = .ok (.getfield 12, 3) := by decide +kernel
theorem dX3_galesToFirstOut_32 : decode cX3_galesToFirstOut 32 = .ok (.aload_n 1, 1) := by decide +kernel
theorem dX3_galesToFirstOut_33 : decode cX3_galesToFirstOut 33 = .ok (.iload_n 3, 1) := by decide +kernel
theorem dX3_galesToFirstOut_34 : decode cX3_galesToFirstOut 34 = .ok (.invokevirtual 30, 3) := by decide +kernel
theorem dX3_galesToFirstOut_37 : decode cX3_galesToFirstOut 37 = .ok (.aload_n 0, 1) := by decide +kernel
theorem dX3_galesToFirstOut_38 : decode cX3_galesToFirstOut 38 = .ok (.getfield 12, 3) := by decide +kernel
theorem dX3_galesToFirstOut_41 : decode cX3_galesToFirstOut 41 = .ok (.aload_n 1, 1) := by decide +kernel
theorem dX3_galesToFirstOut_42 : decode cX3_galesToFirstOut 42 = .ok (.invokevirtual 26, 3) := by decide +kernel
theorem dX3_galesToFirstOut_45 : decode cX3_galesToFirstOut 45 = .ok (.iload 4, 2) := by decide +kernel
theorem dX3_galesToFirstOut_47 : decode cX3_galesToFirstOut 47 = .ok (.if_icmp .eq 6, 3) := by decide +kernel
theorem dX3_galesToFirstOut_50 : decode cX3_galesToFirstOut 50 = .ok (.iload 5, 2) := by decide +kernel
theorem dX3_galesToFirstOut_52 : decode cX3_galesToFirstOut 52 = .ok (.ireturn, 1) := by decide +kernel
theorem dX3_galesToFirstOut_53 : decode cX3_galesToFirstOut 53 = .ok (.iinc 5 1, 3) := by decide +kernel
theorem dX3_galesToFirstOut_56 : decode cX3_galesToFirstOut 56 = .ok (.goto (-35), 3) := by decide +kernel
theorem dX3_galesToFirstOut_59 : decode cX3_galesToFirstOut 59 = .ok (.bipush (-9), 2) := by decide +kernel
theorem dX3_galesToFirstOut_61 : decode cX3_galesToFirstOut 61 = .ok (.ireturn, 1) := by decide +kernel
theorem dX3_endFirstOut_0 : decode cX3_endFirstOut 0 = .ok (.aload_n 0, 1) := by decide +kernel
theorem dX3_endFirstOut_1 : decode cX3_endFirstOut 1 = .ok (.aload_n 1, 1) := by decide +kernel
theorem dX3_endFirstOut_2 : decode cX3_endFirstOut 2 = .ok (.aload_n 2, 1) := by decide +kernel
theorem dX3_endFirstOut_3 : decode cX3_endFirstOut 3 = .ok (.iload_n 3, 1) := by decide +kernel
theorem dX3_endFirstOut_4 : decode cX3_endFirstOut 4 = .ok (.invokevirtual 34, 3) := by decide +kernel
theorem dX3_endFirstOut_7 : decode cX3_endFirstOut 7 = .ok (.bipush (-9), 2) := by decide +kernel
theorem dX3_endFirstOut_9 : decode cX3_endFirstOut 9 = .ok (.if_icmp .ne 6, 3) := by decide +kernel
theorem dX3_endFirstOut_12 : decode cX3_endFirstOut 12 = .ok (.bipush (-9), 2) := by decide +kernel
theorem dX3_endFirstOut_14 : decode cX3_endFirstOut 14 = .ok (.ireturn, 1) := by decide +kernel
theorem dX3_endFirstOut_15 : decode cX3_endFirstOut 15 = .ok (.aload_n 0, 1) := by decide +kernel
theorem dX3_endFirstOut_16 : decode cX3_endFirstOut 16 = .ok (.getfield 12, 3) := by decide +kernel
theorem dX3_endFirstOut_19 : decode cX3_endFirstOut 19 = .ok (.aload_n 1, 1) := by decide +kernel
theorem dX3_endFirstOut_20 : decode cX3_endFirstOut 20 = .ok (.invokevirtual 26, 3) := by decide +kernel
theorem dX3_endFirstOut_23 : decode cX3_endFirstOut 23 = .ok (.aload_n 2, 1) := by decide +kernel
theorem dX3_endFirstOut_24 : decode cX3_endFirstOut 24 = .ok (.aload_n 1, 1) := by decide +kernel
theorem dX3_endFirstOut_25 : decode cX3_endFirstOut 25 = .ok (.invokevirtual 26, 3) := by decide +kernel
theorem dX3_endFirstOut_28 : decode cX3_endFirstOut 28 = .ok (.iconst (-1), 1) := by decide +kernel
theorem dX3_endFirstOut_29 : decode cX3_endFirstOut 29 = .ok (.ixor, 1) := by decide +kernel
theorem dX3_endFirstOut_30 : decode cX3_endFirstOut 30 = .ok (.iand, 1) := by decide +kernel
theorem dX3_endFirstOut_31 : decode cX3_endFirstOut 31 = .ok (.invokestatic 38, 3) := by decide +kernel
theorem dX3_endFirstOut_34 : decode cX3_endFirstOut 34 = .ok (.ireturn, 1) := by decide +kernel
theorem dX3_galesToFall_0 : decode cX3_galesToFall 0 = .ok (.aload_n 0, 1) := by decide +kernel
theorem dX3_galesToFall_1 : decode cX3_galesToFall 1 = .ok (.getfield 12, 3) := by decide +kernel
theorem dX3_galesToFall_4 : decode cX3_galesToFall 4 = .ok (.aload_n 2, 1) := by decide +kernel
theorem dX3_galesToFall_5 : decode cX3_galesToFall 5 = .ok (.getfield 18, 3) := by decide +kernel
theorem dX3_galesToFall_8 : decode cX3_galesToFall 8 = .ok (.invokevirtual 22, 3) := by decide +kernel
theorem dX3_galesToFall_11 : decode cX3_galesToFall 11 = .ok (.iconst 0, 1) := by decide +kernel
theorem dX3_galesToFall_12 : decode cX3_galesToFall 12 = .ok (.istore 5, 2) := by decide +kernel
theorem dX3_galesToFall_14 : decode cX3_galesToFall 14 = .ok (.iload 5, 2) := by decide +kernel
theorem dX3_galesToFall_16 : decode cX3_galesToFall 16 = .ok (.bipush 60, 2) := by decide +kernel
theorem dX3_galesToFall_18 : decode cX3_galesToFall 18 = .ok (.if_icmp .gt 34, 3) := by decide +kernel
theorem dX3_galesToFall_21 : decode cX3_galesToFall 21 = .ok (.aload_n 3, 1) := by decide +kernel
theorem dX3_galesToFall_22 : decode cX3_galesToFall 22 = .ok (.aload_n 1, 1) := by decide +kernel
theorem dX3_galesToFall_23 : decode cX3_galesToFall 23 = .ok (.aload_n 0, 1) := by decide +kernel
theorem dX3_galesToFall_24 : decode cX3_galesToFall 24 = .ok (.getfield 12, 3) := by decide +kernel
theorem dX3_galesToFall_27 : decode cX3_galesToFall 27 = .ok (.invokevirtual 44, 3) := by decide +kernel
theorem dX3_galesToFall_30 : decode cX3_galesToFall 30 = .ok (.ifCond .ne 6, 3) := by decide +kernel
theorem dX3_galesToFall_33 : decode cX3_galesToFall 33 = .ok (.iload 5, 2) := by decide +kernel
theorem dX3_galesToFall_35 : decode cX3_galesToFall 35 = .ok (.ireturn, 1) := by decide +kernel
theorem dX3_galesToFall_36 : decode cX3_galesToFall 36 = .ok (.aload_n 0, 1) := by decide +kernel
theorem dX3_galesToFall_37 : decode cX3_galesToFall 37 = .ok (.getfield 12, 3) := by decide +kernel
theorem dX3_galesToFall_40 : decode cX3_galesToFall 40 = .ok (.aload_n 1, 1) := by decide +kernel
theorem dX3_galesToFall_41 : decode cX3_galesToFall 41 = .ok (.iload 4, 2) := by decide +kernel
theorem dX3_galesToFall_43 : decode cX3_galesToFall 43 = .ok (.invokevirtual 30, 3) := by decide +kernel
theorem dX3_galesToFall_46 : decode cX3_galesToFall 46 = .ok (.iinc 5 1, 3) := by decide +kernel
theorem dX3_galesToFall_49 : decode cX3_galesToFall 49 = .ok (.goto (-35), 3) := by decide +kernel
theorem dX3_galesToFall_52 : decode cX3_galesToFall 52 = .ok (.bipush (-9), 2) := by decide +kernel
theorem dX3_galesToFall_54 : decode cX3_galesToFall 54 = .ok (.ireturn, 1) := by decide +kernel
theorem dX3_lostBehind_0 : decode cX3_lostBehind 0 = .ok (.aload_n 0, 1) := by decide +kernel
theorem dX3_lostBehind_1 : decode cX3_lostBehind 1 = .ok (.getfield 12, 3) := by decide +kernel
theorem dX3_lostBehind_4 : decode cX3_lostBehind 4 = .ok (.aload_n 2, 1) := by decide +kernel
theorem dX3_lostBehind_5 : decode cX3_lostBehind 5 = .ok (.getfield 18, 3) := by decide +kernel
theorem dX3_lostBehind_8 : decode cX3_lostBehind 8 = .ok (.invokevirtual 22, 3) := by decide +kernel
theorem dX3_lostBehind_11 : decode cX3_lostBehind 11 = .ok (.aload_n 0, 1) := by decide +kernel
theorem dX3_lostBehind_12 : decode cX3_lostBehind 12 = .ok (.aload_n 1, 1) := by decide +kernel
theorem dX3_lostBehind_13 : decode cX3_lostBehind 13 = .ok (.iload_n 3, 1) := by decide +kernel
theorem dX3_lostBehind_14 : decode cX3_lostBehind 14 = .ok (.iload 4, 2) := by decide +kernel
theorem dX3_lostBehind_16 : decode cX3_lostBehind 16 = .ok (.invokevirtual 50, 3) := by decide +kernel
theorem dX3_lostBehind_19 : decode cX3_lostBehind 19 = .ok (.aload_n 2, 1) := by decide +kernel
theorem dX3_lostBehind_20 : decode cX3_lostBehind 20 = .ok (.aload_n 1, 1) := by decide +kernel
theorem dX3_lostBehind_21 : decode cX3_lostBehind 21 = .ok (.invokevirtual 26, 3) := by decide +kernel
theorem dX3_lostBehind_24 : decode cX3_lostBehind 24 = .ok (.iconst (-1), 1) := by decide +kernel
theorem dX3_lostBehind_25 : decode cX3_lostBehind 25 = .ok (.ixor, 1) := by decide +kernel
theorem dX3_lostBehind_26 : decode cX3_lostBehind 26 = .ok (.iand, 1) := by decide +kernel
theorem dX3_lostBehind_27 : decode cX3_lostBehind 27 = .ok (.ireturn, 1) := by decide +kernel
theorem dX3_lostIfBolted_0 : decode cX3_lostIfBolted 0 = .ok (.aload_n 0, 1) := by decide +kernel
theorem dX3_lostIfBolted_1 : decode cX3_lostIfBolted 1 = .ok (.getfield 12, 3) := by decide +kernel
theorem dX3_lostIfBolted_4 : decode cX3_lostIfBolted 4 = .ok (.aload_n 2, 1) := by decide +kernel
theorem dX3_lostIfBolted_5 : decode cX3_lostIfBolted 5 = .ok (.getfield 18, 3) := by decide +kernel
theorem dX3_lostIfBolted_8 : decode cX3_lostIfBolted 8 = .ok (.invokevirtual 22, 3) := by decide +kernel
theorem dX3_lostIfBolted_11 : decode cX3_lostIfBolted 11 = .ok (.iconst 0, 1) := by decide +kernel
theorem dX3_lostIfBolted_12 : decode cX3_lostIfBolted 12 = .ok (.istore 5, 2) := by decide +kernel
theorem dX3_lostIfBolted_14 : decode cX3_lostIfBolted 14 = .ok (.iload 5, 2) := by decide +kernel
theorem dX3_lostIfBolted_16 : decode cX3_lostIfBolted 16 = .ok (.aload_n 1, 1) := by decide +kernel
theorem dX3_lostIfBolted_17 : decode cX3_lostIfBolted 17 = .ok (.invokevirtual 54, 3) := by decide +kernel
theorem dX3_lostIfBolted_20 : decode cX3_lostIfBolted 20 = .ok (.if_icmp .ge 19, 3) := by decide +kernel
theorem dX3_lostIfBolted_23 : decode cX3_lostIfBolted 23 = .ok (.aload_n 0, 1) := by decide +kernel
theorem dX3_lostIfBolted_24 : decode cX3_lostIfBolted 24 = .ok (.getfield 12, 3) := by decide +kernel
theorem dX3_lostIfBolted_27 : decode cX3_lostIfBolted 27 = .ok (.iload 5, 2) := by decide +kernel
theorem dX3_lostIfBolted_29 : decode cX3_lostIfBolted 29 = .ok (.iconst 3, 1) := by decide +kernel
theorem dX3_lostIfBolted_30 : decode cX3_lostIfBolted 30 = .ok (.invokevirtual 60, 3) := by decide +kernel
theorem dX3_lostIfBolted_33 : decode cX3_lostIfBolted 33 = .ok (.iinc 5 1, 3) := by decide +kernel
theorem dX3_lostIfBolted_36 : decode cX3_lostIfBolted 36 = .ok (.goto (-22), 3) := by decide +kernel
theorem dX3_lostIfBolted_39 : decode cX3_lostIfBolted 39 = .ok (.aload_n 0, 1) := by decide +kernel
theorem dX3_lostIfBolted_40 : decode cX3_lostIfBolted 40 = .ok (.aload_n 1, 1) := by decide +kernel
theorem dX3_lostIfBolted_41 : decode cX3_lostIfBolted 41 = .ok (.iload_n 3, 1) := by decide +kernel
theorem dX3_lostIfBolted_42 : decode cX3_lostIfBolted 42 = .ok (.iload 4, 2) := by decide +kernel
theorem dX3_lostIfBolted_44 : decode cX3_lostIfBolted 44 = .ok (.invokevirtual 50, 3) := by decide +kernel
theorem dX3_lostIfBolted_47 : decode cX3_lostIfBolted 47 = .ok (.ireturn, 1) := by decide +kernel
theorem dX3_blowAndTell_0 : decode cX3_blowAndTell 0 = .ok (.iconst 0, 1) := by decide +kernel
theorem dX3_blowAndTell_1 : decode cX3_blowAndTell 1 = .ok (.istore 4, 2) := by decide +kernel
theorem dX3_blowAndTell_3 : decode cX3_blowAndTell 3 = .ok (.iload 4, 2) := by decide +kernel
theorem dX3_blowAndTell_5 : decode cX3_blowAndTell 5 = .ok (.iload_n 3, 1) := by decide +kernel
theorem dX3_blowAndTell_6 : decode cX3_blowAndTell 6 = .ok (.if_icmp .ge 18, 3) := by decide +kernel
theorem dX3_blowAndTell_9 : decode cX3_blowAndTell 9 = .ok (.aload_n 0, 1) := by decide +kernel
theorem dX3_blowAndTell_10 : decode cX3_blowAndTell 10 = .ok (.getfield 12, 3) := by decide +kernel
theorem dX3_blowAndTell_13 : decode cX3_blowAndTell 13 = .ok (.aload_n 1, 1) := by decide +kernel
theorem dX3_blowAndTell_14 : decode cX3_blowAndTell 14 = .ok (.iload_n 2, 1) := by decide +kernel
theorem dX3_blowAndTell_15 : decode cX3_blowAndTell 15 = .ok (.invokevirtual 30, 3) := by decide +kernel
theorem dX3_blowAndTell_18 : decode cX3_blowAndTell 18 = .ok (.iinc 4 1, 3) := by decide +kernel
theorem dX3_blowAndTell_21 : decode cX3_blowAndTell 21 = .ok (.goto (-18), 3) := by decide +kernel
theorem dX3_blowAndTell_24 : decode cX3_blowAndTell 24 = .ok (.aload_n 0, 1) := by decide +kernel
theorem dX3_blowAndTell_25 : decode cX3_blowAndTell 25 = .ok (.getfield 12, 3) := by decide +kernel
theorem dX3_blowAndTell_28 : decode cX3_blowAndTell 28 = .ok (.aload_n 1, 1) := by decide +kernel
theorem dX3_blowAndTell_29 : decode cX3_blowAndTell 29 = .ok (.invokevirtual 26, 3) := by decide +kernel
theorem dX3_blowAndTell_32 : decode cX3_blowAndTell 32 = .ok (.ireturn, 1) := by decide +kernel
theorem dX4_init_0 : decode cX4_init 0 = .ok (.aload_n 0, 1) := by decide +kernel
theorem dX4_init_1 : decode cX4_init 1 = .ok (.invokespecial 3, 3) := by decide +kernel
theorem dX4_init_4 : decode cX4_init 4 = .ok (.aload_n 0, 1) := by decide +kernel
theorem dX4_init_5 : decode cX4_init 5 = .ok (.bipush 64, 2) := by decide +kernel
theorem dX4_init_7 : decode cX4_init 7 = .ok (.newarray .int, 2) := by decide +kernel
theorem dX4_init_9 : decode cX4_init 9 = .ok (.putfield 9, 3) := by decide +kernel
theorem dX4_init_12 : decode cX4_init 12 = .ok (.return_, 1) := by decide +kernel
theorem dX4_howMany_0 : decode cX4_howMany 0 = .ok (.iconst 1, 1) := by decide +kernel
theorem dX4_howMany_1 : decode cX4_howMany 1 = .ok (.aload_n 1, 1) := by decide +kernel
theorem dX4_howMany_2 : decode cX4_howMany 2 = .ok (.getfield 15, 3) := by decide +kernel
theorem dX4_howMany_5 : decode cX4_howMany 5 = .ok (.ishl, 1) := by decide +kernel
theorem dX4_howMany_6 : decode cX4_howMany 6 = .ok (.istore_n 2, 1) := by decide +kernel
theorem dX4_howMany_7 : decode cX4_howMany 7 = .ok (.iconst 0, 1) := by decide +kernel
theorem dX4_howMany_8 : decode cX4_howMany 8 = .ok (.istore_n 3, 1) := by decide +kernel
theorem dX4_howMany_9 : decode cX4_howMany 9 = .ok (.iload_n 3, 1) := by decide +kernel
theorem dX4_howMany_10 : decode cX4_howMany 10 = .ok (.iload_n 2, 1) := by decide +kernel
theorem dX4_howMany_11 : decode cX4_howMany 11 = .ok (.if_icmp .ge 24, 3) := by decide +kernel
theorem dX4_howMany_14 : decode cX4_howMany 14 = .ok (.aload_n 0, 1) := by decide +kernel
theorem dX4_howMany_15 : decode cX4_howMany 15 = .ok (.getfield 9, 3) := by decide +kernel
theorem dX4_howMany_18 : decode cX4_howMany 18 = .ok (.iload_n 3, 1) := by decide +kernel
theorem dX4_howMany_19 : decode cX4_howMany 19 = .ok (.iload_n 3, 1) := by decide +kernel
theorem dX4_howMany_20 : decode cX4_howMany 20 = .ok (.ifCond .ne 7, 3) := by decide +kernel
theorem dX4_howMany_23 : decode cX4_howMany 23 = .ok (.iconst 1, 1) := by decide +kernel
theorem dX4_howMany_24 : decode cX4_howMany 24 = .ok (.goto 4, 3) := by decide +kernel
theorem dX4_howMany_27 : decode cX4_howMany 27 = .ok (.iconst 0, 1) := by decide +kernel
theorem dX4_howMany_28 : decode cX4_howMany 28 = .ok (.iastore, 1) := by decide +kernel
theorem dX4_howMany_29 : decode cX4_howMany 29 = .ok (.iinc 3 1, 3) := by decide +kernel
theorem dX4_howMany_32 : decode cX4_howMany 32 = .ok (.goto (-23), 3) := by decide +kernel
theorem dX4_howMany_35 : decode cX4_howMany 35 = .ok (.iconst 0, 1) := by decide +kernel
theorem dX4_howMany_36 : decode cX4_howMany 36 = .ok (.istore_n 3, 1) := by decide +kernel
theorem dX4_howMany_37 : decode cX4_howMany 37 = .ok (.iload_n 3, 1) := by decide +kernel
theorem dX4_howMany_38 : decode cX4_howMany 38 = .ok (.iload_n 2, 1) := by decide +kernel
theorem dX4_howMany_39 : decode cX4_howMany 39 = .ok (.if_icmp .ge 66, 3) := by decide +kernel
theorem dX4_howMany_42 : decode cX4_howMany 42 = .ok (.aload_n 1, 1) := by decide +kernel
theorem dX4_howMany_43 : decode cX4_howMany 43 = .ok (.iload_n 3, 1) := by decide +kernel
theorem dX4_howMany_44 : decode cX4_howMany 44 = .ok (.invokestatic 21, 3) := by decide +kernel
theorem dX4_howMany_47 : decode cX4_howMany 47 = .ok (.istore 4, 2) := by decide +kernel
theorem dX4_howMany_49 : decode cX4_howMany 49 = .ok (.iconst 0, 1) := by decide +kernel
theorem dX4_howMany_50 : decode cX4_howMany 50 = .ok (.istore 5, 2) := by decide +kernel
theorem dX4_howMany_52 : decode cX4_howMany 52 = .ok (.iload 5, 2) := by decide +kernel
theorem dX4_howMany_54 : decode cX4_howMany 54 = .ok (.aload_n 1, 1) := by decide +kernel
theorem dX4_howMany_55 : decode cX4_howMany 55 = .ok (.getfield 15, 3) := by decide +kernel
theorem dX4_howMany_58 : decode cX4_howMany 58 = .ok (.if_icmp .ge 41, 3) := by decide +kernel
theorem dX4_howMany_61 : decode cX4_howMany 61 = .ok (.aload_n 1, 1) := by decide +kernel
theorem dX4_howMany_62 : decode cX4_howMany 62 = .ok (.iload_n 3, 1) := by decide +kernel
theorem dX4_howMany_63 : decode cX4_howMany 63 = .ok (.iload 4, 2) := by decide +kernel
theorem dX4_howMany_65 : decode cX4_howMany 65 = .ok (.iload 5, 2) := by decide +kernel
theorem dX4_howMany_67 : decode cX4_howMany 67 = .ok (.invokestatic 25, 3) := by decide +kernel
theorem dX4_howMany_70 : decode cX4_howMany 70 = .ok (.ifCond .eq 23, 3) := by decide +kernel
theorem dX4_howMany_73 : decode cX4_howMany 73 = .ok (.aload_n 0, 1) := by decide +kernel
theorem dX4_howMany_74 : decode cX4_howMany 74 = .ok (.getfield 9, 3) := by decide +kernel
theorem dX4_howMany_77 : decode cX4_howMany 77 = .ok (.iload_n 3, 1) := by decide +kernel
theorem dX4_howMany_78 : decode cX4_howMany 78 = .ok (.iconst 1, 1) := by decide +kernel
theorem dX4_howMany_79 : decode cX4_howMany 79 = .ok (.iload 5, 2) := by decide +kernel
theorem dX4_howMany_81 : decode cX4_howMany 81 = .ok (.ishl, 1) := by decide +kernel
theorem dX4_howMany_82 : decode cX4_howMany 82 = .ok (.ior, 1) := by decide +kernel
theorem dX4_howMany_83 : decode cX4_howMany 83 = .ok (.dup2, 1) := by decide +kernel
theorem dX4_howMany_84 : decode cX4_howMany 84 = .ok (.iaload, 1) := by decide +kernel
theorem dX4_howMany_85 : decode cX4_howMany 85 = .ok (.aload_n 0, 1) := by decide +kernel
theorem dX4_howMany_86 : decode cX4_howMany 86 = .ok (.getfield 9, 3) := by decide +kernel
theorem dX4_howMany_89 : decode cX4_howMany 89 = .ok (.iload_n 3, 1) := by decide +kernel
theorem dX4_howMany_90 : decode cX4_howMany 90 = .ok (.iaload, 1) := by decide +kernel
theorem dX4_howMany_91 : decode cX4_howMany 91 = .ok (.iadd, 1) := by decide +kernel
theorem dX4_howMany_92 : decode cX4_howMany 92 = .ok (.iastore, 1) := by decide +kernel
theorem dX4_howMany_93 : decode cX4_howMany 93 = .ok (.iinc 5 1, 3) := by decide +kernel
theorem dX4_howMany_96 : decode cX4_howMany 96 = .ok (.goto (-44), 3) := by decide +kernel
theorem dX4_howMany_99 : decode cX4_howMany 99 = .ok (.iinc 3 1, 3) := by decide +kernel
theorem dX4_howMany_102 : decode cX4_howMany 102 = .ok (.goto (-65), 3) := by decide +kernel
theorem dX4_howMany_105 : decode cX4_howMany 105 = .ok (.aload_n 0, 1) := by decide +kernel
theorem dX4_howMany_106 : decode cX4_howMany 106 = .ok (.getfield 9, 3) := by decide +kernel
theorem dX4_howMany_109 : decode cX4_howMany 109 = .ok (.iload_n 2, 1) := by decide +kernel
theorem dX4_howMany_110 : decode cX4_howMany 110 = .ok (.iconst 1, 1) := by decide +kernel
theorem dX4_howMany_111 : decode cX4_howMany 111 = .ok (.isub, 1) := by decide +kernel
theorem dX4_howMany_112 : decode cX4_howMany 112 = .ok (.iaload, 1) := by decide +kernel
theorem dX4_howMany_113 : decode cX4_howMany 113 = .ok (.ireturn, 1) := by decide +kernel
theorem dX4_ofFirst_0 : decode cX4_ofFirst 0 = .ok (.iconst 0, 1) := by decide +kernel
theorem dX4_ofFirst_1 : decode cX4_ofFirst 1 = .ok (.istore_n 3, 1) := by decide +kernel
theorem dX4_ofFirst_2 : decode cX4_ofFirst 2 = .ok (.bipush (-9), 2) := by decide +kernel
theorem dX4_ofFirst_4 : decode cX4_ofFirst 4 = .ok (.istore 4, 2) := by decide +kernel
theorem dX4_ofFirst_6 : decode cX4_ofFirst 6 = .ok (.iconst 0, 1) := by decide +kernel
theorem dX4_ofFirst_7 : decode cX4_ofFirst 7 = .ok (.istore 5, 2) := by decide +kernel
theorem dX4_ofFirst_9 : decode cX4_ofFirst 9 = .ok (.iload 5, 2) := by decide +kernel
theorem dX4_ofFirst_11 : decode cX4_ofFirst 11 = .ok (.iload_n 2, 1) := by decide +kernel
theorem dX4_ofFirst_12 : decode cX4_ofFirst 12 = .ok (.if_icmp .gt 42, 3) := by decide +kernel
theorem dX4_ofFirst_15 : decode cX4_ofFirst 15 = .ok (.iload 5, 2) := by decide +kernel
theorem dX4_ofFirst_17 : decode cX4_ofFirst 17 = .ok (.aload_n 1, 1) := by decide +kernel
theorem dX4_ofFirst_18 : decode cX4_ofFirst 18 = .ok (.getfield 15, 3) := by decide +kernel
theorem dX4_ofFirst_21 : decode cX4_ofFirst 21 = .ok (.if_icmp .ge 33, 3) := by decide +kernel
theorem dX4_ofFirst_24 : decode cX4_ofFirst 24 = .ok (.aload_n 1, 1) := by decide +kernel
theorem dX4_ofFirst_25 : decode cX4_ofFirst 25 = .ok (.iload_n 3, 1) := by decide +kernel
theorem dX4_ofFirst_26 : decode cX4_ofFirst 26 = .ok (.invokestatic 29, 3) := by decide +kernel
theorem dX4_ofFirst_29 : decode cX4_ofFirst 29 = .ok (.istore 4, 2) := by decide +kernel
theorem dX4_ofFirst_31 : decode cX4_ofFirst 31 = .ok (.iload 4, 2) := by decide +kernel
theorem dX4_ofFirst_33 : decode cX4_ofFirst 33 = .ok (.bipush (-9), 2) := by decide +kernel
theorem dX4_ofFirst_35 : decode cX4_ofFirst 35 = .ok (.if_icmp .ne 6, 3) := by decide +kernel
theorem dX4_ofFirst_38 : decode cX4_ofFirst 38 = .ok (.bipush (-9), 2) := by decide +kernel
theorem dX4_ofFirst_40 : decode cX4_ofFirst 40 = .ok (.ireturn, 1) := by decide +kernel
theorem dX4_ofFirst_41 : decode cX4_ofFirst 41 = .ok (.iload_n 3, 1) := by decide +kernel
theorem dX4_ofFirst_42 : decode cX4_ofFirst 42 = .ok (.iconst 1, 1) := by decide +kernel
theorem dX4_ofFirst_43 : decode cX4_ofFirst 43 = .ok (.iload 4, 2) := by decide +kernel
theorem dX4_ofFirst_45 : decode cX4_ofFirst 45 = .ok (.ishl, 1) := by decide +kernel
theorem dX4_ofFirst_46 : decode cX4_ofFirst 46 = .ok (.ior, 1) := by decide +kernel
theorem dX4_ofFirst_47 : decode cX4_ofFirst 47 = .ok (.istore_n 3, 1) := by decide +kernel
theorem dX4_ofFirst_48 : decode cX4_ofFirst 48 = .ok (.iinc 5 1, 3) := by decide +kernel
theorem dX4_ofFirst_51 : decode cX4_ofFirst 51 = .ok (.goto (-42), 3) := by decide +kernel
theorem dX4_ofFirst_54 : decode cX4_ofFirst 54 = .ok (.iload 4, 2) := by decide +kernel
theorem dX4_ofFirst_56 : decode cX4_ofFirst 56 = .ok (.ireturn, 1) := by decide +kernel
theorem dX4_neverLaid_0 : decode cX4_neverLaid 0 = .ok (.iconst 0, 1) := by decide +kernel
theorem dX4_neverLaid_1 : decode cX4_neverLaid 1 = .ok (.istore_n 2, 1) := by decide +kernel
theorem dX4_neverLaid_2 : decode cX4_neverLaid 2 = .ok (.iconst 0, 1) := by decide +kernel
theorem dX4_neverLaid_3 : decode cX4_neverLaid 3 = .ok (.istore_n 3, 1) := by decide +kernel
theorem dX4_neverLaid_4 : decode cX4_neverLaid 4 = .ok (.iload_n 3, 1) := by decide +kernel
theorem dX4_neverLaid_5 : decode cX4_neverLaid 5 = .ok (.aload_n 1, 1) := by decide +kernel
theorem dX4_neverLaid_6 : decode cX4_neverLaid 6 = .ok (.getfield 15, 3) := by decide +kernel
theorem dX4_neverLaid_9 : decode cX4_neverLaid 9 = .ok (.if_icmp .ge 30, 3) := by decide +kernel
theorem dX4_neverLaid_12 : decode cX4_neverLaid 12 = .ok (.aload_n 1, 1) := by decide +kernel
theorem dX4_neverLaid_13 : decode cX4_neverLaid 13 = .ok (.iload_n 2, 1) := by decide +kernel
theorem dX4_neverLaid_14 : decode cX4_neverLaid 14 = .ok (.invokestatic 29, 3) := by decide +kernel
theorem dX4_neverLaid_17 : decode cX4_neverLaid 17 = .ok (.istore 4, 2) := by decide +kernel
theorem dX4_neverLaid_19 : decode cX4_neverLaid 19 = .ok (.iload 4, 2) := by decide +kernel
theorem dX4_neverLaid_21 : decode cX4_neverLaid 21 = .ok (.bipush (-9), 2) := by decide +kernel
theorem dX4_neverLaid_23 : decode cX4_neverLaid 23 = .ok (.if_icmp .eq 10, 3) := by decide +kernel
theorem dX4_neverLaid_26 : decode cX4_neverLaid 26 = .ok (.iload_n 2, 1) := by decide +kernel
theorem dX4_neverLaid_27 : decode cX4_neverLaid 27 = .ok (.iconst 1, 1) := by decide +kernel
theorem dX4_neverLaid_28 : decode cX4_neverLaid 28 = .ok (.iload 4, 2) := by decide +kernel
theorem dX4_neverLaid_30 : decode cX4_neverLaid 30 = .ok (.ishl, 1) := by decide +kernel
theorem dX4_neverLaid_31 : decode cX4_neverLaid 31 = .ok (.ior, 1) := by decide +kernel
theorem dX4_neverLaid_32 : decode cX4_neverLaid 32 = .ok (.istore_n 2, 1) := by decide +kernel
theorem dX4_neverLaid_33 : decode cX4_neverLaid 33 = .ok (.iinc 3 1, 3) := by decide +kernel
theorem dX4_neverLaid_36 : decode cX4_neverLaid 36 = .ok (.goto (-32), 3) := by decide +kernel
theorem dX4_neverLaid_39 : decode cX4_neverLaid 39 = .ok (.iconst 1, 1) := by decide +kernel
theorem dX4_neverLaid_40 : decode cX4_neverLaid 40 = .ok (.aload_n 1, 1) := by decide +kernel
theorem dX4_neverLaid_41 : decode cX4_neverLaid 41 = .ok (.getfield 15, 3) := by decide +kernel
theorem dX4_neverLaid_44 : decode cX4_neverLaid 44 = .ok (.ishl, 1) := by decide +kernel
theorem dX4_neverLaid_45 : decode cX4_neverLaid 45 = .ok (.iconst 1, 1) := by decide +kernel
theorem dX4_neverLaid_46 : decode cX4_neverLaid 46 = .ok (.isub, 1) := by decide +kernel
theorem dX4_neverLaid_47 : decode cX4_neverLaid 47 = .ok (.iload_n 2, 1) := by decide +kernel
theorem dX4_neverLaid_48 : decode cX4_neverLaid 48 = .ok (.iconst (-1), 1) := by decide +kernel
theorem dX4_neverLaid_49 : decode cX4_neverLaid 49 = .ok (.ixor, 1) := by decide +kernel
theorem dX4_neverLaid_50 : decode cX4_neverLaid 50 = .ok (.iand, 1) := by decide +kernel
theorem dX4_neverLaid_51 : decode cX4_neverLaid 51 = .ok (.ireturn, 1) := by decide +kernel
theorem dX4_leastNext_0 : decode cX4_leastNext 0 = .ok (.aload_n 0, 1) := by decide +kernel
theorem dX4_leastNext_1 : decode cX4_leastNext 1 = .ok (.iload_n 1, 1) := by decide +kernel
theorem dX4_leastNext_2 : decode cX4_leastNext 2 = .ok (.invokestatic 21, 3) := by decide +kernel
theorem dX4_leastNext_5 : decode cX4_leastNext 5 = .ok (.istore_n 2, 1) := by decide +kernel
theorem dX4_leastNext_6 : decode cX4_leastNext 6 = .ok (.iconst 0, 1) := by decide +kernel
theorem dX4_leastNext_7 : decode cX4_leastNext 7 = .ok (.istore_n 3, 1) := by decide +kernel
theorem dX4_leastNext_8 : decode cX4_leastNext 8 = .ok (.iload_n 3, 1) := by decide +kernel
theorem dX4_leastNext_9 : decode cX4_leastNext 9 = .ok (.aload_n 0, 1) := by decide +kernel
theorem dX4_leastNext_10 : decode cX4_leastNext 10 = .ok (.getfield 15, 3) := by decide +kernel
theorem dX4_leastNext_13 : decode cX4_leastNext 13 = .ok (.if_icmp .ge 21, 3) := by decide +kernel
theorem dX4_leastNext_16 : decode cX4_leastNext 16 = .ok (.aload_n 0, 1) := by decide +kernel
theorem dX4_leastNext_17 : decode cX4_leastNext 17 = .ok (.iload_n 1, 1) := by decide +kernel
theorem dX4_leastNext_18 : decode cX4_leastNext 18 = .ok (.iload_n 2, 1) := by decide +kernel
theorem dX4_leastNext_19 : decode cX4_leastNext 19 = .ok (.iload_n 3, 1) := by decide +kernel
theorem dX4_leastNext_20 : decode cX4_leastNext 20 = .ok (.invokestatic 25, 3) := by decide +kernel
theorem dX4_leastNext_23 : decode cX4_leastNext 23 = .ok (.ifCond .eq 5, 3) := by decide +kernel
theorem dX4_leastNext_26 : decode cX4_leastNext 26 = .ok (.iload_n 3, 1) := by decide +kernel
theorem dX4_leastNext_27 : decode cX4_leastNext 27 = .ok (.ireturn, 1) := by decide +kernel
theorem dX4_leastNext_28 : decode cX4_leastNext 28 = .ok (.iinc 3 1, 3) := by decide +kernel
theorem dX4_leastNext_31 : decode cX4_leastNext 31 = .ok (.goto (-23), 3) := by decide +kernel
theorem dX4_leastNext_34 : decode cX4_leastNext 34 = .ok (.bipush (-9), 2) := by decide +kernel
theorem dX4_leastNext_36 : decode cX4_leastNext 36 = .ok (.ireturn, 1) := by decide +kernel
theorem dX4_canFollow_0 : decode cX4_canFollow 0 = .ok (.iload_n 1, 1) := by decide +kernel
theorem dX4_canFollow_1 : decode cX4_canFollow 1 = .ok (.iload_n 3, 1) := by decide +kernel
theorem dX4_canFollow_2 : decode cX4_canFollow 2 = .ok (.ishr, 1) := by decide +kernel
theorem dX4_canFollow_3 : decode cX4_canFollow 3 = .ok (.iconst 1, 1) := by decide +kernel
theorem dX4_canFollow_4 : decode cX4_canFollow 4 = .ok (.iand, 1) := by decide +kernel
theorem dX4_canFollow_5 : decode cX4_canFollow 5 = .ok (.ifCond .ne 17, 3) := by decide +kernel
theorem dX4_canFollow_8 : decode cX4_canFollow 8 = .ok (.aload_n 0, 1) := by decide +kernel
theorem dX4_canFollow_9 : decode cX4_canFollow 9 = .ok (.iload_n 3, 1) := by decide +kernel
theorem dX4_canFollow_10 : decode cX4_canFollow 10 = .ok (.invokevirtual 32, 3) := by decide +kernel
theorem dX4_canFollow_13 : decode cX4_canFollow 13 = .ok (.iload_n 2, 1) := by decide +kernel
theorem dX4_canFollow_14 : decode cX4_canFollow 14 = .ok (.iand, 1) := by decide +kernel
theorem dX4_canFollow_15 : decode cX4_canFollow 15 = .ok (.ifCond .eq 7, 3) := by decide +kernel
theorem dX4_canFollow_18 : decode cX4_canFollow 18 = .ok (.iconst 1, 1) := by decide +kernel
theorem dX4_canFollow_19 : decode cX4_canFollow 19 = .ok (.goto 4, 3) := by decide +kernel
theorem dX4_canFollow_22 : decode cX4_canFollow 22 = .ok (.iconst 0, 1) := by decide +kernel
theorem dX4_canFollow_23 : decode cX4_canFollow 23 = .ok (.ireturn, 1) := by decide +kernel
theorem dX4_reachedBy_0 : decode cX4_reachedBy 0 = .ok (.iconst 1, 1) := by decide +kernel
theorem dX4_reachedBy_1 : decode cX4_reachedBy 1 = .ok (.istore_n 2, 1) := by decide +kernel
theorem dX4_reachedBy_2 : decode cX4_reachedBy 2 = .ok (.iconst 0, 1) := by decide +kernel
theorem dX4_reachedBy_3 : decode cX4_reachedBy 3 = .ok (.istore_n 3, 1) := by decide +kernel
theorem dX4_reachedBy_4 : decode cX4_reachedBy 4 = .ok (.iload_n 3, 1) := by decide +kernel
theorem dX4_reachedBy_5 : decode cX4_reachedBy 5 = .ok (.aload_n 0, 1) := by decide +kernel
theorem dX4_reachedBy_6 : decode cX4_reachedBy 6 = .ok (.getfield 15, 3) := by decide +kernel
theorem dX4_reachedBy_9 : decode cX4_reachedBy 9 = .ok (.if_icmp .ge 25, 3) := by decide +kernel
theorem dX4_reachedBy_12 : decode cX4_reachedBy 12 = .ok (.iload_n 1, 1) := by decide +kernel
theorem dX4_reachedBy_13 : decode cX4_reachedBy 13 = .ok (.iload_n 3, 1) := by decide +kernel
theorem dX4_reachedBy_14 : decode cX4_reachedBy 14 = .ok (.ishr, 1) := by decide +kernel
theorem dX4_reachedBy_15 : decode cX4_reachedBy 15 = .ok (.iconst 1, 1) := by decide +kernel
theorem dX4_reachedBy_16 : decode cX4_reachedBy 16 = .ok (.iand, 1) := by decide +kernel
theorem dX4_reachedBy_17 : decode cX4_reachedBy 17 = .ok (.ifCond .eq 11, 3) := by decide +kernel
theorem dX4_reachedBy_20 : decode cX4_reachedBy 20 = .ok (.iload_n 2, 1) := by decide +kernel
theorem dX4_reachedBy_21 : decode cX4_reachedBy 21 = .ok (.aload_n 0, 1) := by decide +kernel
theorem dX4_reachedBy_22 : decode cX4_reachedBy 22 = .ok (.iload_n 3, 1) := by decide +kernel
theorem dX4_reachedBy_23 : decode cX4_reachedBy 23 = .ok (.invokevirtual 32, 3) := by decide +kernel
theorem dX4_reachedBy_26 : decode cX4_reachedBy 26 = .ok (.ior, 1) := by decide +kernel
theorem dX4_reachedBy_27 : decode cX4_reachedBy 27 = .ok (.istore_n 2, 1) := by decide +kernel
theorem dX4_reachedBy_28 : decode cX4_reachedBy 28 = .ok (.iinc 3 1, 3) := by decide +kernel
theorem dX4_reachedBy_31 : decode cX4_reachedBy 31 = .ok (.goto (-27), 3) := by decide +kernel
theorem dX4_reachedBy_34 : decode cX4_reachedBy 34 = .ok (.iload_n 2, 1) := by decide +kernel
theorem dX4_reachedBy_35 : decode cX4_reachedBy 35 = .ok (.ireturn, 1) := by decide +kernel
theorem dX5_init_0 : decode cX5_init 0 = .ok (.aload_n 0, 1) := by decide +kernel
theorem dX5_init_1 : decode cX5_init 1 = .ok (.invokespecial 3, 3) := by decide +kernel
theorem dX5_init_4 : decode cX5_init 4 = .ok (.aload_n 0, 1) := by decide +kernel
theorem dX5_init_5 : decode cX5_init 5 = .ok (.bipush 10, 2) := by decide +kernel
theorem dX5_init_7 : decode cX5_init 7 = .ok (.bipush 42, 2) := by decide +kernel
theorem dX5_init_9 : decode cX5_init 9 = .ok (.multianewarray 11 2, 4) := by decide +kernel
theorem dX5_init_13 : decode cX5_init 13 = .ok (.putfield 13, 3) := by decide +kernel
theorem dX5_init_16 : decode cX5_init 16 = .ok (.aload_n 0, 1) := by decide +kernel
theorem dX5_init_17 : decode cX5_init 17 = .ok (.iconst 0, 1) := by decide +kernel
theorem dX5_init_18 : decode cX5_init 18 = .ok (.putfield 18, 3) := by decide +kernel
theorem dX5_init_21 : decode cX5_init 21 = .ok (.aload_n 0, 1) := by decide +kernel
theorem dX5_init_22 : decode cX5_init 22 = .ok (.iconst 0, 1) := by decide +kernel
theorem dX5_init_23 : decode cX5_init 23 = .ok (.putfield 22, 3) := by decide +kernel
theorem dX5_init_26 : decode cX5_init 26 = .ok (.return_, 1) := by decide +kernel
theorem dX5_remember_0 : decode cX5_remember 0 = .ok (.aload_n 1, 1) := by decide +kernel
theorem dX5_remember_1 : decode cX5_remember 1 = .ok (.aload_n 0, 1) := by decide +kernel
theorem dX5_remember_2 : decode cX5_remember 2 = .ok (.getfield 13, 3) := by decide +kernel
theorem dX5_remember_5 : decode cX5_remember 5 = .ok (.aload_n 0, 1) := by decide +kernel
theorem dX5_remember_6 : decode cX5_remember 6 = .ok (.getfield 22, 3) := by decide +kernel
theorem dX5_remember_9 : decode cX5_remember 9 = .ok (.aaload, 1) := by decide +kernel
theorem dX5_remember_10 : decode cX5_remember 10 = .ok (.invokevirtual 25, 3) := by decide +kernel
theorem dX5_remember_13 : decode cX5_remember 13 = .ok (.aload_n 0, 1) := by decide +kernel
theorem dX5_remember_14 : decode cX5_remember 14 = .ok (.aload_n 0, 1) := by decide +kernel
theorem dX5_remember_15 : decode cX5_remember 15 = .ok (.getfield 22, 3) := by decide +kernel
theorem dX5_remember_18 : decode cX5_remember 18 = .ok (.iconst 1, 1) := by decide +kernel
theorem dX5_remember_19 : decode cX5_remember 19 = .ok (.iadd, 1) := by decide +kernel
theorem dX5_remember_20 : decode cX5_remember 20 = .ok (.bipush 10, 2) := by decide +kernel
theorem dX5_remember_22 : decode cX5_remember 22 = .ok (.if_icmp .ge 12, 3) := by decide +kernel
theorem dX5_remember_25 : decode cX5_remember 25 = .ok (.aload_n 0, 1) := by decide +kernel
theorem dX5_remember_26 : decode cX5_remember 26 = .ok (.getfield 22, 3) := by decide +kernel
theorem dX5_remember_29 : decode cX5_remember 29 = .ok (.iconst 1, 1) := by decide +kernel
theorem dX5_remember_30 : decode cX5_remember 30 = .ok (.iadd, 1) := by decide +kernel
theorem dX5_remember_31 : decode cX5_remember 31 = .ok (.goto 4, 3) := by decide +kernel
theorem dX5_remember_34 : decode cX5_remember 34 = .ok (.iconst 0, 1) := by decide +kernel
theorem dX5_remember_35 : decode cX5_remember 35 = .ok (.putfield 22, 3) := by decide +kernel
theorem dX5_remember_38 : decode cX5_remember 38 = .ok (.aload_n 0, 1) := by decide +kernel
theorem dX5_remember_39 : decode cX5_remember 39 = .ok (.aload_n 0, 1) := by decide +kernel
theorem dX5_remember_40 : decode cX5_remember 40 = .ok (.getfield 18, 3) := by decide +kernel
theorem dX5_remember_43 : decode cX5_remember 43 = .ok (.iconst 1, 1) := by decide +kernel
theorem dX5_remember_44 : decode cX5_remember 44 = .ok (.iadd, 1) := by decide +kernel
theorem dX5_remember_45 : decode cX5_remember 45 = .ok (.bipush 10, 2) := by decide +kernel
theorem dX5_remember_47 : decode cX5_remember 47 = .ok (.invokestatic 29, 3) := by decide +kernel
theorem dX5_remember_50 : decode cX5_remember 50 = .ok (.putfield 18, 3) := by decide +kernel
theorem dX5_remember_53 : decode cX5_remember 53 = .ok (.return_, 1) := by decide +kernel
theorem dX5_takeBack_0 : decode cX5_takeBack 0 = .ok (.aload_n 0, 1) := by decide +kernel
theorem dX5_takeBack_1 : decode cX5_takeBack 1 = .ok (.getfield 18, 3) := by decide +kernel
theorem dX5_takeBack_4 : decode cX5_takeBack 4 = .ok (.ifCond .ne 5, 3) := by decide +kernel
theorem dX5_takeBack_7 : decode cX5_takeBack 7 = .ok (.iconst 0, 1) := by decide +kernel
theorem dX5_takeBack_8 : decode cX5_takeBack 8 = .ok (.ireturn, 1) := by decide +kernel
theorem dX5_takeBack_9 : decode cX5_takeBack 9 = .ok (.aload_n 0, 1) := by decide +kernel
theorem dX5_takeBack_10 : decode cX5_takeBack 10 = .ok (.dup, 1) := by decide +kernel
theorem dX5_takeBack_11 : decode cX5_takeBack 11 = .ok (.getfield 18, 3) := by decide +kernel
theorem dX5_takeBack_14 : decode cX5_takeBack 14 = .ok (.iconst 1, 1) := by decide +kernel
theorem dX5_takeBack_15 : decode cX5_takeBack 15 = .ok (.isub, 1) := by decide +kernel
theorem dX5_takeBack_16 : decode cX5_takeBack 16 = .ok (.putfield 18, 3) := by decide +kernel
theorem dX5_takeBack_19 : decode cX5_takeBack 19 = .ok (.aload_n 0, 1) := by decide +kernel
theorem dX5_takeBack_20 : decode cX5_takeBack 20 = .ok (.aload_n 0, 1) := by decide +kernel
theorem dX5_takeBack_21 : decode cX5_takeBack 21 = .ok (.getfield 22, 3) := by decide +kernel
theorem dX5_takeBack_24 : decode cX5_takeBack 24 = .ok (.ifCond .le 12, 3) := by decide +kernel
theorem dX5_takeBack_27 : decode cX5_takeBack 27 = .ok (.aload_n 0, 1) := by decide +kernel
theorem dX5_takeBack_28 : decode cX5_takeBack 28 = .ok (.getfield 22, 3) := by decide +kernel
theorem dX5_takeBack_31 : decode cX5_takeBack 31 = .ok (.iconst 1, 1) := by decide +kernel
theorem dX5_takeBack_32 : decode cX5_takeBack 32 = .ok (.isub, 1) := by decide +kernel
theorem dX5_takeBack_33 : decode cX5_takeBack 33 = .ok (.goto 5, 3) := by decide +kernel
theorem dX5_takeBack_36 : decode cX5_takeBack 36 = .ok (.bipush 9, 2) := by decide +kernel
theorem dX5_takeBack_38 : decode cX5_takeBack 38 = .ok (.putfield 22, 3) := by decide +kernel
theorem dX5_takeBack_41 : decode cX5_takeBack 41 = .ok (.aload_n 1, 1) := by decide +kernel
theorem dX5_takeBack_42 : decode cX5_takeBack 42 = .ok (.aload_n 0, 1) := by decide +kernel
theorem dX5_takeBack_43 : decode cX5_takeBack 43 = .ok (.getfield 13, 3) := by decide +kernel
theorem dX5_takeBack_46 : decode cX5_takeBack 46 = .ok (.aload_n 0, 1) := by decide +kernel
theorem dX5_takeBack_47 : decode cX5_takeBack 47 = .ok (.getfield 22, 3) := by decide +kernel
theorem dX5_takeBack_50 : decode cX5_takeBack 50 = .ok (.aaload, 1) := by decide +kernel
theorem dX5_takeBack_51 : decode cX5_takeBack 51 = .ok (.invokevirtual 35, 3) := by decide +kernel
theorem dX5_takeBack_54 : decode cX5_takeBack 54 = .ok (.iconst 1, 1) := by decide +kernel
theorem dX5_takeBack_55 : decode cX5_takeBack 55 = .ok (.ireturn, 1) := by decide +kernel
theorem dX5_lose_0 : decode cX5_lose 0 = .ok (.aload_n 0, 1) := by decide +kernel
theorem dX5_lose_1 : decode cX5_lose 1 = .ok (.iconst 0, 1) := by decide +kernel
theorem dX5_lose_2 : decode cX5_lose 2 = .ok (.putfield 18, 3) := by decide +kernel
theorem dX5_lose_5 : decode cX5_lose 5 = .ok (.aload_n 0, 1) := by decide +kernel
theorem dX5_lose_6 : decode cX5_lose 6 = .ok (.iconst 0, 1) := by decide +kernel
theorem dX5_lose_7 : decode cX5_lose 7 = .ok (.putfield 22, 3) := by decide +kernel
theorem dX5_lose_10 : decode cX5_lose 10 = .ok (.return_, 1) := by decide +kernel
theorem dX6_init_0 : decode cX6_init 0 = .ok (.aload_n 0, 1) := by decide +kernel
theorem dX6_init_1 : decode cX6_init 1 = .ok (.invokespecial 3, 3) := by decide +kernel
theorem dX6_init_4 : decode cX6_init 4 = .ok (.aload_n 0, 1) := by decide +kernel
theorem dX6_init_5 : decode cX6_init 5 = .ok (.new 9, 3) := by decide +kernel
theorem dX6_init_8 : decode cX6_init 8 = .ok (.dup, 1) := by decide +kernel
theorem dX6_init_9 : decode cX6_init 9 = .ok (.invokespecial 11, 3) := by decide +kernel
theorem dX6_init_12 : decode cX6_init 12 = .ok (.putfield 12, 3) := by decide +kernel
theorem dX6_init_15 : decode cX6_init 15 = .ok (.aload_n 0, 1) := by decide +kernel
theorem dX6_init_16 : decode cX6_init 16 = .ok (.iconst 5, 1) := by decide +kernel
theorem dX6_init_17 : decode cX6_init 17 = .ok (.newarray .int, 2) := by decide +kernel
theorem dX6_init_19 : decode cX6_init 19 = .ok (.putfield 18, 3) := by decide +kernel
theorem dX6_init_22 : decode cX6_init 22 = .ok (.aload_n 0, 1) := by decide +kernel
theorem dX6_init_23 : decode cX6_init 23 = .ok (.bipush 6, 2) := by decide +kernel
theorem dX6_init_25 : decode cX6_init 25 = .ok (.newarray .int, 2) := by decide +kernel
theorem dX6_init_27 : decode cX6_init 27 = .ok (.putfield 22, 3) := by decide +kernel
theorem dX6_init_30 : decode cX6_init 30 = .ok (.aload_n 0, 1) := by decide +kernel
theorem dX6_init_31 : decode cX6_init 31 = .ok (.iconst 5, 1) := by decide +kernel
theorem dX6_init_32 : decode cX6_init 32 = .ok (.newarray .int, 2) := by decide +kernel
theorem dX6_init_34 : decode cX6_init 34 = .ok (.putfield 25, 3) := by decide +kernel
theorem dX6_init_37 : decode cX6_init 37 = .ok (.aload_n 0, 1) := by decide +kernel
theorem dX6_init_38 : decode cX6_init 38 = .ok (.iconst 5, 1) := by decide +kernel
theorem dX6_init_39 : decode cX6_init 39 = .ok (.newarray .int, 2) := by decide +kernel
theorem dX6_init_41 : decode cX6_init 41 = .ok (.putfield 28, 3) := by decide +kernel
theorem dX6_init_44 : decode cX6_init 44 = .ok (.aload_n 0, 1) := by decide +kernel
theorem dX6_init_45 : decode cX6_init 45 = .ok (.iconst (-1), 1) := by decide +kernel
theorem dX6_init_46 : decode cX6_init 46 = .ok (.putfield 31, 3) := by decide +kernel
theorem dX6_init_49 : decode cX6_init 49 = .ok (.return_, 1) := by decide +kernel
theorem dX6_seekMost_0 : decode cX6_seekMost 0 = .ok (.iconst 0, 1) := by decide +kernel
theorem dX6_seekMost_1 : decode cX6_seekMost 1 = .ok (.istore_n 3, 1) := by decide +kernel
theorem dX6_seekMost_2 : decode cX6_seekMost 2 = .ok (.iload_n 3, 1) := by decide +kernel
theorem dX6_seekMost_3 : decode cX6_seekMost 3 = .ok (.aload_n 1, 1) := by decide +kernel
theorem dX6_seekMost_4 : decode cX6_seekMost 4 = .ok (.getfield 35, 3) := by decide +kernel
theorem dX6_seekMost_7 : decode cX6_seekMost 7 = .ok (.if_icmp .ge 16, 3) := by decide +kernel
theorem dX6_seekMost_10 : decode cX6_seekMost 10 = .ok (.aload_n 0, 1) := by decide +kernel
theorem dX6_seekMost_11 : decode cX6_seekMost 11 = .ok (.getfield 18, 3) := by decide +kernel
theorem dX6_seekMost_14 : decode cX6_seekMost 14 = .ok (.iload_n 3, 1) := by decide +kernel
theorem dX6_seekMost_15 : decode cX6_seekMost 15 = .ok (.iconst 1, 1) := by decide +kernel
theorem dX6_seekMost_16 : decode cX6_seekMost 16 = .ok (.iastore, 1) := by decide +kernel
theorem dX6_seekMost_17 : decode cX6_seekMost 17 = .ok (.iinc 3 1, 3) := by decide +kernel
theorem dX6_seekMost_20 : decode cX6_seekMost 20 = .ok (.goto (-18), 3) := by decide +kernel
theorem dX6_seekMost_23 : decode cX6_seekMost 23 = .ok (.aload_n 0, 1) := by decide +kernel
theorem dX6_seekMost_24 : decode cX6_seekMost 24 = .ok (.aload_n 1, 1) := by decide +kernel
theorem dX6_seekMost_25 : decode cX6_seekMost 25 = .ok (.aload_n 2, 1) := by decide +kernel
theorem dX6_seekMost_26 : decode cX6_seekMost 26 = .ok (.invokevirtual 40, 3) := by decide +kernel
theorem dX6_seekMost_29 : decode cX6_seekMost 29 = .ok (.return_, 1) := by decide +kernel
theorem dX6_seekRichest_0 : decode cX6_seekRichest 0 = .ok (.iconst 0, 1) := by decide +kernel
theorem dX6_seekRichest_1 : decode cX6_seekRichest 1 = .ok (.istore_n 3, 1) := by decide +kernel
theorem dX6_seekRichest_2 : decode cX6_seekRichest 2 = .ok (.iload_n 3, 1) := by decide +kernel
theorem dX6_seekRichest_3 : decode cX6_seekRichest 3 = .ok (.aload_n 1, 1) := by decide +kernel
theorem dX6_seekRichest_4 : decode cX6_seekRichest 4 = .ok (.getfield 35, 3) := by decide +kernel
theorem dX6_seekRichest_7 : decode cX6_seekRichest 7 = .ok (.if_icmp .ge 26, 3) := by decide +kernel
theorem dX6_seekRichest_10 : decode cX6_seekRichest 10 = .ok (.aload_n 0, 1) := by decide +kernel
theorem dX6_seekRichest_11 : decode cX6_seekRichest 11 = .ok (.getfield 18, 3) := by decide +kernel
theorem dX6_seekRichest_14 : decode cX6_seekRichest 14 = .ok (.iload_n 3, 1) := by decide +kernel
theorem dX6_seekRichest_15 : decode cX6_seekRichest 15 = .ok (.bipush 10, 2) := by decide +kernel
theorem dX6_seekRichest_17 : decode cX6_seekRichest 17 = .ok (.aload_n 1, 1) := by decide +kernel
theorem dX6_seekRichest_18 : decode cX6_seekRichest 18 = .ok (.getfield 44, 3) := by decide +kernel
theorem dX6_seekRichest_21 : decode cX6_seekRichest 21 = .ok (.iload_n 3, 1) := by decide +kernel
theorem dX6_seekRichest_22 : decode cX6_seekRichest 22 = .ok (.iaload, 1) := by decide +kernel
theorem dX6_seekRichest_23 : decode cX6_seekRichest 23 = .ok (.imul, 1) := by decide +kernel
theorem dX6_seekRichest_24 : decode cX6_seekRichest 24 = .ok (.iconst 1, 1) := by decide +kernel
theorem dX6_seekRichest_25 : decode cX6_seekRichest 25 = .ok (.isub, 1) := by decide +kernel
theorem dX6_seekRichest_26 : decode cX6_seekRichest 26 = .ok (.iastore, 1) := by decide +kernel
theorem dX6_seekRichest_27 : decode cX6_seekRichest 27 = .ok (.iinc 3 1, 3) := by decide +kernel
theorem dX6_seekRichest_30 : decode cX6_seekRichest 30 = .ok (.goto (-28), 3) := by decide +kernel
theorem dX6_seekRichest_33 : decode cX6_seekRichest 33 = .ok (.aload_n 0, 1) := by decide +kernel
theorem dX6_seekRichest_34 : decode cX6_seekRichest 34 = .ok (.aload_n 1, 1) := by decide +kernel
theorem dX6_seekRichest_35 : decode cX6_seekRichest 35 = .ok (.aload_n 2, 1) := by decide +kernel
theorem dX6_seekRichest_36 : decode cX6_seekRichest 36 = .ok (.invokevirtual 40, 3) := by decide +kernel
theorem dX6_seekRichest_39 : decode cX6_seekRichest 39 = .ok (.return_, 1) := by decide +kernel
theorem dX6_placeOf_0 : decode cX6_placeOf 0 = .ok (.aload_n 0, 1) := by decide +kernel
theorem dX6_placeOf_1 : decode cX6_placeOf 1 = .ok (.getfield 28, 3) := by decide +kernel
theorem dX6_placeOf_4 : decode cX6_placeOf 4 = .ok (.iload_n 1, 1) := by decide +kernel
theorem dX6_placeOf_5 : decode cX6_placeOf 5 = .ok (.iaload, 1) := by decide +kernel
theorem dX6_placeOf_6 : decode cX6_placeOf 6 = .ok (.bipush (-9), 2) := by decide +kernel
theorem dX6_placeOf_8 : decode cX6_placeOf 8 = .ok (.if_icmp .ne 8, 3) := by decide +kernel
theorem dX6_placeOf_11 : decode cX6_placeOf 11 = .ok (.bipush (-5), 2) := by decide +kernel
theorem dX6_placeOf_13 : decode cX6_placeOf 13 = .ok (.goto 9, 3) := by decide +kernel
theorem dX6_placeOf_16 : decode cX6_placeOf 16 = .ok (.aload_n 0, 1) := by decide +kernel
theorem dX6_placeOf_17 : decode cX6_placeOf 17 = .ok (.getfield 28, 3) := by decide +kernel
theorem dX6_placeOf_20 : decode cX6_placeOf 20 = .ok (.iload_n 1, 1) := by decide +kernel
theorem dX6_placeOf_21 : decode cX6_placeOf 21 = .ok (.iaload, 1) := by decide +kernel
theorem dX6_placeOf_22 : decode cX6_placeOf 22 = .ok (.ireturn, 1) := by decide +kernel
theorem dX6_howMany_0 : decode cX6_howMany 0 = .ok (.iconst 0, 1) := by decide +kernel
theorem dX6_howMany_1 : decode cX6_howMany 1 = .ok (.istore_n 2, 1) := by decide +kernel
theorem dX6_howMany_2 : decode cX6_howMany 2 = .ok (.iconst 0, 1) := by decide +kernel
theorem dX6_howMany_3 : decode cX6_howMany 3 = .ok (.istore_n 3, 1) := by decide +kernel
theorem dX6_howMany_4 : decode cX6_howMany 4 = .ok (.iload_n 3, 1) := by decide +kernel
theorem dX6_howMany_5 : decode cX6_howMany 5 = .ok (.aload_n 1, 1) := by decide +kernel
theorem dX6_howMany_6 : decode cX6_howMany 6 = .ok (.getfield 35, 3) := by decide +kernel
theorem dX6_howMany_9 : decode cX6_howMany 9 = .ok (.if_icmp .ge 28, 3) := by decide +kernel
theorem dX6_howMany_12 : decode cX6_howMany 12 = .ok (.iload_n 2, 1) := by decide +kernel
theorem dX6_howMany_13 : decode cX6_howMany 13 = .ok (.aload_n 0, 1) := by decide +kernel
theorem dX6_howMany_14 : decode cX6_howMany 14 = .ok (.getfield 28, 3) := by decide +kernel
theorem dX6_howMany_17 : decode cX6_howMany 17 = .ok (.iload_n 3, 1) := by decide +kernel
theorem dX6_howMany_18 : decode cX6_howMany 18 = .ok (.iaload, 1) := by decide +kernel
theorem dX6_howMany_19 : decode cX6_howMany 19 = .ok (.bipush (-9), 2) := by decide +kernel
theorem dX6_howMany_21 : decode cX6_howMany 21 = .ok (.if_icmp .ne 7, 3) := by decide +kernel
theorem dX6_howMany_24 : decode cX6_howMany 24 = .ok (.iconst 0, 1) := by decide +kernel
theorem dX6_howMany_25 : decode cX6_howMany 25 = .ok (.goto 4, 3) := by decide +kernel
theorem dX6_howMany_28 : decode cX6_howMany 28 = .ok (.iconst 1, 1) := by decide +kernel
theorem dX6_howMany_29 : decode cX6_howMany 29 = .ok (.iadd, 1) := by decide +kernel
theorem dX6_howMany_30 : decode cX6_howMany 30 = .ok (.istore_n 2, 1) := by decide +kernel
theorem dX6_howMany_31 : decode cX6_howMany 31 = .ok (.iinc 3 1, 3) := by decide +kernel
theorem dX6_howMany_34 : decode cX6_howMany 34 = .ok (.goto (-30), 3) := by decide +kernel
theorem dX6_howMany_37 : decode cX6_howMany 37 = .ok (.iload_n 2, 1) := by decide +kernel
theorem dX6_howMany_38 : decode cX6_howMany 38 = .ok (.ireturn, 1) := by decide +kernel
theorem dX6_howMuch_0 : decode cX6_howMuch 0 = .ok (.iconst 0, 1) := by decide +kernel
theorem dX6_howMuch_1 : decode cX6_howMuch 1 = .ok (.istore_n 2, 1) := by decide +kernel
theorem dX6_howMuch_2 : decode cX6_howMuch 2 = .ok (.iconst 0, 1) := by decide +kernel
theorem dX6_howMuch_3 : decode cX6_howMuch 3 = .ok (.istore_n 3, 1) := by decide +kernel
theorem dX6_howMuch_4 : decode cX6_howMuch 4 = .ok (.iload_n 3, 1) := by decide +kernel
theorem dX6_howMuch_5 : decode cX6_howMuch 5 = .ok (.aload_n 1, 1) := by decide +kernel
theorem dX6_howMuch_6 : decode cX6_howMuch 6 = .ok (.getfield 35, 3) := by decide +kernel
theorem dX6_howMuch_9 : decode cX6_howMuch 9 = .ok (.if_icmp .ge 33, 3) := by decide +kernel
theorem dX6_howMuch_12 : decode cX6_howMuch 12 = .ok (.iload_n 2, 1) := by decide +kernel
theorem dX6_howMuch_13 : decode cX6_howMuch 13 = .ok (.aload_n 0, 1) := by decide +kernel
theorem dX6_howMuch_14 : decode cX6_howMuch 14 = .ok (.getfield 28, 3) := by decide +kernel
theorem dX6_howMuch_17 : decode cX6_howMuch 17 = .ok (.iload_n 3, 1) := by decide +kernel
theorem dX6_howMuch_18 : decode cX6_howMuch 18 = .ok (.iaload, 1) := by decide +kernel
theorem dX6_howMuch_19 : decode cX6_howMuch 19 = .ok (.bipush (-9), 2) := by decide +kernel
theorem dX6_howMuch_21 : decode cX6_howMuch 21 = .ok (.if_icmp .ne 7, 3) := by decide +kernel
theorem dX6_howMuch_24 : decode cX6_howMuch 24 = .ok (.iconst 0, 1) := by decide +kernel
theorem dX6_howMuch_25 : decode cX6_howMuch 25 = .ok (.goto 9, 3) := by decide +kernel
theorem dX6_howMuch_28 : decode cX6_howMuch 28 = .ok (.aload_n 1, 1) := by decide +kernel
theorem dX6_howMuch_29 : decode cX6_howMuch 29 = .ok (.getfield 44, 3) := by decide +kernel
theorem dX6_howMuch_32 : decode cX6_howMuch 32 = .ok (.iload_n 3, 1) := by decide +kernel
theorem dX6_howMuch_33 : decode cX6_howMuch 33 = .ok (.iaload, 1) := by decide +kernel
theorem dX6_howMuch_34 : decode cX6_howMuch 34 = .ok (.iadd, 1) := by decide +kernel
theorem dX6_howMuch_35 : decode cX6_howMuch 35 = .ok (.istore_n 2, 1) := by decide +kernel
theorem dX6_howMuch_36 : decode cX6_howMuch 36 = .ok (.iinc 3 1, 3) := by decide +kernel
theorem dX6_howMuch_39 : decode cX6_howMuch 39 = .ok (.goto (-35), 3) := by decide +kernel
theorem dX6_howMuch_42 : decode cX6_howMuch 42 = .ok (.iload_n 2, 1) := by decide +kernel
theorem dX6_howMuch_43 : decode cX6_howMuch 43 = .ok (.ireturn, 1) := by decide +kernel
theorem dX6_seek_0 : decode cX6_seek 0 = .ok (.aload_n 0, 1) := by decide +kernel
theorem dX6_seek_1 : decode cX6_seek 1 = .ok (.getfield 22, 3) := by decide +kernel
theorem dX6_seek_4 : decode cX6_seek 4 = .ok (.aload_n 1, 1) := by decide +kernel
theorem dX6_seek_5 : decode cX6_seek 5 = .ok (.getfield 35, 3) := by decide +kernel
theorem dX6_seek_8 : decode cX6_seek 8 = .ok (.iconst 0, 1) := by decide +kernel
theorem dX6_seek_9 : decode cX6_seek 9 = .ok (.iastore, 1) := by decide +kernel
theorem dX6_seek_10 : decode cX6_seek 10 = .ok (.aload_n 1, 1) := by decide +kernel
theorem dX6_seek_11 : decode cX6_seek 11 = .ok (.getfield 35, 3) := by decide +kernel
theorem dX6_seek_14 : decode cX6_seek 14 = .ok (.iconst 1, 1) := by decide +kernel
theorem dX6_seek_15 : decode cX6_seek 15 = .ok (.isub, 1) := by decide +kernel
theorem dX6_seek_16 : decode cX6_seek 16 = .ok (.istore_n 3, 1) := by decide +kernel
theorem dX6_seek_17 : decode cX6_seek 17 = .ok (.iload_n 3, 1) := by decide +kernel
theorem dX6_seek_18 : decode cX6_seek 18 = .ok (.ifCond .lt 34, 3) := by decide +kernel
theorem dX6_seek_21 : decode cX6_seek 21 = .ok (.aload_n 0, 1) := by decide +kernel
theorem dX6_seek_22 : decode cX6_seek 22 = .ok (.getfield 22, 3) := by decide +kernel
theorem dX6_seek_25 : decode cX6_seek 25 = .ok (.iload_n 3, 1) := by decide +kernel
theorem dX6_seek_26 : decode cX6_seek 26 = .ok (.aload_n 0, 1) := by decide +kernel
theorem dX6_seek_27 : decode cX6_seek 27 = .ok (.getfield 22, 3) := by decide +kernel
theorem dX6_seek_30 : decode cX6_seek 30 = .ok (.iload_n 3, 1) := by decide +kernel
theorem dX6_seek_31 : decode cX6_seek 31 = .ok (.iconst 1, 1) := by decide +kernel
theorem dX6_seek_32 : decode cX6_seek 32 = .ok (.iadd, 1) := by decide +kernel
theorem dX6_seek_33 : decode cX6_seek 33 = .ok (.iaload, 1) := by decide +kernel
theorem dX6_seek_34 : decode cX6_seek 34 = .ok (.iconst 0, 1) := by decide +kernel
theorem dX6_seek_35 : decode cX6_seek 35 = .ok (.aload_n 0, 1) := by decide +kernel
theorem dX6_seek_36 : decode cX6_seek 36 = .ok (.getfield 18, 3) := by decide +kernel
theorem dX6_seek_39 : decode cX6_seek 39 = .ok (.iload_n 3, 1) := by decide +kernel
theorem dX6_seek_40 : decode cX6_seek 40 = .ok (.iaload, 1) := by decide +kernel
theorem dX6_seek_41 : decode cX6_seek 41 = .ok (.invokestatic 47, 3) := by decide +kernel
theorem dX6_seek_44 : decode cX6_seek 44 = .ok (.iadd, 1) := by decide +kernel
theorem dX6_seek_45 : decode cX6_seek 45 = .ok (.iastore, 1) := by decide +kernel
theorem dX6_seek_46 : decode cX6_seek 46 = .ok (.iinc 3 (-1), 3) := by decide +kernel
theorem dX6_seek_49 : decode cX6_seek 49 = .ok (.goto (-32), 3) := by decide +kernel
theorem dX6_seek_52 : decode cX6_seek 52 = .ok (.aload_n 0, 1) := by decide +kernel
theorem dX6_seek_53 : decode cX6_seek 53 = .ok (.getfield 12, 3) := by decide +kernel
theorem dX6_seek_56 : decode cX6_seek 56 = .ok (.invokevirtual 53, 3) := by decide +kernel
theorem dX6_seek_59 : decode cX6_seek 59 = .ok (.aload_n 0, 1) := by decide +kernel
theorem dX6_seek_60 : decode cX6_seek 60 = .ok (.iconst (-1), 1) := by decide +kernel
theorem dX6_seek_61 : decode cX6_seek 61 = .ok (.putfield 31, 3) := by decide +kernel
theorem dX6_seek_64 : decode cX6_seek 64 = .ok (.aload_n 0, 1) := by decide +kernel
theorem dX6_seek_65 : decode cX6_seek 65 = .ok (.aload_n 1, 1) := by decide +kernel
theorem dX6_seek_66 : decode cX6_seek 66 = .ok (.aload_n 2, 1) := by decide +kernel
theorem dX6_seek_67 : decode cX6_seek 67 = .ok (.iconst 0, 1) := by decide +kernel
theorem dX6_seek_68 : decode cX6_seek 68 = .ok (.iconst 0, 1) := by decide +kernel
theorem dX6_seek_69 : decode cX6_seek 69 = .ok (.invokevirtual 56, 3) := by decide +kernel
theorem dX6_seek_72 : decode cX6_seek 72 = .ok (.return_, 1) := by decide +kernel
theorem dX6_placeFrom_0 : decode cX6_placeFrom 0 = .ok (.iload_n 3, 1) := by decide +kernel
theorem dX6_placeFrom_1 : decode cX6_placeFrom 1 = .ok (.aload_n 1, 1) := by decide +kernel
theorem dX6_placeFrom_2 : decode cX6_placeFrom 2 = .ok (.getfield 35, 3) := by decide +kernel
theorem dX6_placeFrom_5 : decode cX6_placeFrom 5 = .ok (.if_icmp .gt 19, 3) := by decide +kernel
theorem dX6_placeFrom_8 : decode cX6_placeFrom 8 = .ok (.iload 4, 2) := by decide +kernel
theorem dX6_placeFrom_10 : decode cX6_placeFrom 10 = .ok (.aload_n 0, 1) := by decide +kernel
theorem dX6_placeFrom_11 : decode cX6_placeFrom 11 = .ok (.getfield 22, 3) := by decide +kernel
theorem dX6_placeFrom_14 : decode cX6_placeFrom 14 = .ok (.iload_n 3, 1) := by decide +kernel
theorem dX6_placeFrom_15 : decode cX6_placeFrom 15 = .ok (.iaload, 1) := by decide +kernel
theorem dX6_placeFrom_16 : decode cX6_placeFrom 16 = .ok (.iadd, 1) := by decide +kernel
theorem dX6_placeFrom_17 : decode cX6_placeFrom 17 = .ok (.aload_n 0, 1) := by decide +kernel
theorem dX6_placeFrom_18 : decode cX6_placeFrom 18 = .ok (.getfield 31, 3) := by decide +kernel
theorem dX6_placeFrom_21 : decode cX6_placeFrom 21 = .ok (.if_icmp .gt 4, 3) := by decide +kernel
theorem dX6_placeFrom_24 : decode cX6_placeFrom 24 = .ok (.return_, 1) := by decide +kernel
theorem dX6_placeFrom_25 : decode cX6_placeFrom 25 = .ok (.iload_n 3, 1) := by decide +kernel
theorem dX6_placeFrom_26 : decode cX6_placeFrom 26 = .ok (.aload_n 1, 1) := by decide +kernel
theorem dX6_placeFrom_27 : decode cX6_placeFrom 27 = .ok (.getfield 35, 3) := by decide +kernel
theorem dX6_placeFrom_30 : decode cX6_placeFrom 30 = .ok (.if_icmp .ne 24, 3) := by decide +kernel
theorem dX6_placeFrom_33 : decode cX6_placeFrom 33 = .ok (.aload_n 0, 1) := by decide +kernel
theorem dX6_placeFrom_34 : decode cX6_placeFrom 34 = .ok (.iload 4, 2) := by decide +kernel
theorem dX6_placeFrom_36 : decode cX6_placeFrom 36 = .ok (.putfield 31, 3) := by decide +kernel
theorem dX6_placeFrom_39 : decode cX6_placeFrom 39 = .ok (.aload_n 0, 1) := by decide +kernel
theorem dX6_placeFrom_40 : decode cX6_placeFrom 40 = .ok (.getfield 25, 3) := by decide +kernel
theorem dX6_placeFrom_43 : decode cX6_placeFrom 43 = .ok (.iconst 0, 1) := by decide +kernel
theorem dX6_placeFrom_44 : decode cX6_placeFrom 44 = .ok (.aload_n 0, 1) := by decide +kernel
theorem dX6_placeFrom_45 : decode cX6_placeFrom 45 = .ok (.getfield 28, 3) := by decide +kernel
theorem dX6_placeFrom_48 : decode cX6_placeFrom 48 = .ok (.iconst 0, 1) := by decide +kernel
theorem dX6_placeFrom_49 : decode cX6_placeFrom 49 = .ok (.iconst 5, 1) := by decide +kernel
theorem dX6_placeFrom_50 : decode cX6_placeFrom 50 = .ok (.invokestatic 60, 3) := by decide +kernel
theorem dX6_placeFrom_53 : decode cX6_placeFrom 53 = .ok (.return_, 1) := by decide +kernel
theorem dX6_placeFrom_54 : decode cX6_placeFrom 54 = .ok (.iconst 0, 1) := by decide +kernel
theorem dX6_placeFrom_55 : decode cX6_placeFrom 55 = .ok (.istore 5, 2) := by decide +kernel
theorem dX6_placeFrom_57 : decode cX6_placeFrom 57 = .ok (.iload 5, 2) := by decide +kernel
theorem dX6_placeFrom_59 : decode cX6_placeFrom 59 = .ok (.aload_n 1, 1) := by decide +kernel
theorem dX6_placeFrom_60 : decode cX6_placeFrom 60 = .ok (.getfield 66, 3) := by decide +kernel
theorem dX6_placeFrom_63 : decode cX6_placeFrom 63 = .ok (.if_icmp .ge 90, 3) := by decide +kernel
theorem dX6_placeFrom_66 : decode cX6_placeFrom 66 = .ok (.aload_n 2, 1) := by decide +kernel
theorem dX6_placeFrom_67 : decode cX6_placeFrom 67 = .ok (.iload 5, 2) := by decide +kernel
theorem dX6_placeFrom_69 : decode cX6_placeFrom 69 = .ok (.invokevirtual 69, 3) := by decide +kernel
theorem dX6_placeFrom_72 : decode cX6_placeFrom 72 = .ok (.ifCond .eq 75, 3) := by decide +kernel
theorem dX6_placeFrom_75 : decode cX6_placeFrom 75 = .ok (.aload_n 0, 1) := by decide +kernel
theorem dX6_placeFrom_76 : decode cX6_placeFrom 76 = .ok (.getfield 12, 3) := by decide +kernel
theorem dX6_placeFrom_79 : decode cX6_placeFrom 79 = .ok (.aload_n 1, 1) := by decide +kernel
theorem dX6_placeFrom_80 : decode cX6_placeFrom 80 = .ok (.iload 5, 2) := by decide +kernel
theorem dX6_placeFrom_82 : decode cX6_placeFrom 82 = .ok (.aload_n 1, 1) := by decide +kernel
theorem dX6_placeFrom_83 : decode cX6_placeFrom 83 = .ok (.getfield 75, 3) := by decide +kernel
theorem dX6_placeFrom_86 : decode cX6_placeFrom 86 = .ok (.iload_n 3, 1) := by decide +kernel
theorem dX6_placeFrom_87 : decode cX6_placeFrom 87 = .ok (.iaload, 1) := by decide +kernel
theorem dX6_placeFrom_88 : decode cX6_placeFrom 88 = .ok (.invokevirtual 78, 3) := by decide +kernel
theorem dX6_placeFrom_91 : decode cX6_placeFrom 91 = .ok (.aload_n 0, 1) := by decide +kernel
theorem dX6_placeFrom_92 : decode cX6_placeFrom 92 = .ok (.getfield 12, 3) := by decide +kernel
theorem dX6_placeFrom_95 : decode cX6_placeFrom 95 = .ok (.aload_n 1, 1) := by decide +kernel
theorem dX6_placeFrom_96 : decode cX6_placeFrom 96 = .ok (.iload 5, 2) := by decide +kernel
theorem dX6_placeFrom_98 : decode cX6_placeFrom 98 = .ok (.invokevirtual 82, 3) := by decide +kernel
theorem dX6_placeFrom_101 : decode cX6_placeFrom 101 = .ok (.ifCond .eq 29, 3) := by decide +kernel
theorem dX6_placeFrom_104 : decode cX6_placeFrom 104 = .ok (.aload_n 0, 1) := by decide +kernel
theorem dX6_placeFrom_105 : decode cX6_placeFrom 105 = .ok (.getfield 25, 3) := by decide +kernel
theorem dX6_placeFrom_108 : decode cX6_placeFrom 108 = .ok (.iload_n 3, 1) := by decide +kernel
theorem dX6_placeFrom_109 : decode cX6_placeFrom 109 = .ok (.iload 5, 2) := by decide +kernel
theorem dX6_placeFrom_111 : decode cX6_placeFrom 111 = .ok (.iastore, 1) := by decide +kernel
theorem dX6_placeFrom_112 : decode cX6_placeFrom 112 = .ok (.aload_n 0, 1) := by decide +kernel
theorem dX6_placeFrom_113 : decode cX6_placeFrom 113 = .ok (.aload_n 1, 1) := by decide +kernel
theorem dX6_placeFrom_114 : decode cX6_placeFrom 114 = .ok (.aload_n 2, 1) := by decide +kernel
theorem dX6_placeFrom_115 : decode cX6_placeFrom 115 = .ok (.iload_n 3, 1) := by decide +kernel
theorem dX6_placeFrom_116 : decode cX6_placeFrom 116 = .ok (.iconst 1, 1) := by decide +kernel
theorem dX6_placeFrom_117 : decode cX6_placeFrom 117 = .ok (.iadd, 1) := by decide +kernel
theorem dX6_placeFrom_118 : decode cX6_placeFrom 118 = .ok (.iload 4, 2) := by decide +kernel
theorem dX6_placeFrom_120 : decode cX6_placeFrom 120 = .ok (.aload_n 0, 1) := by decide +kernel
theorem dX6_placeFrom_121 : decode cX6_placeFrom 121 = .ok (.getfield 18, 3) := by decide +kernel
theorem dX6_placeFrom_124 : decode cX6_placeFrom 124 = .ok (.iload_n 3, 1) := by decide +kernel
theorem dX6_placeFrom_125 : decode cX6_placeFrom 125 = .ok (.iaload, 1) := by decide +kernel
theorem dX6_placeFrom_126 : decode cX6_placeFrom 126 = .ok (.iadd, 1) := by decide +kernel
theorem dX6_placeFrom_127 : decode cX6_placeFrom 127 = .ok (.invokevirtual 56, 3) := by decide +kernel
theorem dX6_placeFrom_130 : decode cX6_placeFrom 130 = .ok (.aload_n 0, 1) := by decide +kernel
theorem dX6_placeFrom_131 : decode cX6_placeFrom 131 = .ok (.getfield 12, 3) := by decide +kernel
theorem dX6_placeFrom_134 : decode cX6_placeFrom 134 = .ok (.aload_n 1, 1) := by decide +kernel
theorem dX6_placeFrom_135 : decode cX6_placeFrom 135 = .ok (.iload 5, 2) := by decide +kernel
theorem dX6_placeFrom_137 : decode cX6_placeFrom 137 = .ok (.aload_n 1, 1) := by decide +kernel
theorem dX6_placeFrom_138 : decode cX6_placeFrom 138 = .ok (.getfield 75, 3) := by decide +kernel
theorem dX6_placeFrom_141 : decode cX6_placeFrom 141 = .ok (.iload_n 3, 1) := by decide +kernel
theorem dX6_placeFrom_142 : decode cX6_placeFrom 142 = .ok (.iaload, 1) := by decide +kernel
theorem dX6_placeFrom_143 : decode cX6_placeFrom 143 = .ok (.ineg, 1) := by decide +kernel
theorem dX6_placeFrom_144 : decode cX6_placeFrom 144 = .ok (.invokevirtual 78, 3) := by decide +kernel
theorem dX6_placeFrom_147 : decode cX6_placeFrom 147 = .ok (.iinc 5 1, 3) := by decide +kernel
theorem dX6_placeFrom_150 : decode cX6_placeFrom 150 = .ok (.goto (-93), 3) := by decide +kernel
theorem dX6_placeFrom_153 : decode cX6_placeFrom 153 = .ok (.aload_n 0, 1) := by decide +kernel
theorem dX6_placeFrom_154 : decode cX6_placeFrom 154 = .ok (.getfield 25, 3) := by decide +kernel
theorem dX6_placeFrom_157 : decode cX6_placeFrom 157 = .ok (.iload_n 3, 1) := by decide +kernel
theorem dX6_placeFrom_158 : decode cX6_placeFrom 158 = .ok (.bipush (-9), 2) := by decide +kernel
theorem dX6_placeFrom_160 : decode cX6_placeFrom 160 = .ok (.iastore, 1) := by decide +kernel
theorem dX6_placeFrom_161 : decode cX6_placeFrom 161 = .ok (.aload_n 0, 1) := by decide +kernel
theorem dX6_placeFrom_162 : decode cX6_placeFrom 162 = .ok (.aload_n 1, 1) := by decide +kernel
theorem dX6_placeFrom_163 : decode cX6_placeFrom 163 = .ok (.aload_n 2, 1) := by decide +kernel
theorem dX6_placeFrom_164 : decode cX6_placeFrom 164 = .ok (.iload_n 3, 1) := by decide +kernel
theorem dX6_placeFrom_165 : decode cX6_placeFrom 165 = .ok (.iconst 1, 1) := by decide +kernel
theorem dX6_placeFrom_166 : decode cX6_placeFrom 166 = .ok (.iadd, 1) := by decide +kernel
theorem dX6_placeFrom_167 : decode cX6_placeFrom 167 = .ok (.iload 4, 2) := by decide +kernel
theorem dX6_placeFrom_169 : decode cX6_placeFrom 169 = .ok (.invokevirtual 56, 3) := by decide +kernel
theorem dX6_placeFrom_172 : decode cX6_placeFrom 172 = .ok (.return_, 1) := by decide +kernel
theorem dX7_init_0 : decode cX7_init 0 = .ok (.aload_n 0, 1) := by decide +kernel
theorem dX7_init_1 : decode cX7_init 1 = .ok (.invokespecial 3, 3) := by decide +kernel
theorem dX7_init_4 : decode cX7_init 4 = .ok (.aload_n 0, 1) := by decide +kernel
theorem dX7_init_5 : decode cX7_init 5 = .ok (.iconst 0, 1) := by decide +kernel
theorem dX7_init_6 : decode cX7_init 6 = .ok (.putfield 9, 3) := by decide +kernel
theorem dX7_init_9 : decode cX7_init 9 = .ok (.aload_n 0, 1) := by decide +kernel
theorem dX7_init_10 : decode cX7_init 10 = .ok (.bipush (-9), 2) := by decide +kernel
theorem dX7_init_12 : decode cX7_init 12 = .ok (.putfield 15, 3) := by decide +kernel
theorem dX7_init_15 : decode cX7_init 15 = .ok (.aload_n 0, 1) := by decide +kernel
theorem dX7_init_16 : decode cX7_init 16 = .ok (.bipush (-9), 2) := by decide +kernel
theorem dX7_init_18 : decode cX7_init 18 = .ok (.putfield 18, 3) := by decide +kernel
theorem dX7_init_21 : decode cX7_init 21 = .ok (.aload_n 0, 1) := by decide +kernel
theorem dX7_init_22 : decode cX7_init 22 = .ok (.bipush 6, 2) := by decide +kernel
theorem dX7_init_24 : decode cX7_init 24 = .ok (.newarray .int, 2) := by decide +kernel
theorem dX7_init_26 : decode cX7_init 26 = .ok (.putfield 21, 3) := by decide +kernel
theorem dX7_init_29 : decode cX7_init 29 = .ok (.aload_n 0, 1) := by decide +kernel
theorem dX7_init_30 : decode cX7_init 30 = .ok (.bipush 6, 2) := by decide +kernel
theorem dX7_init_32 : decode cX7_init 32 = .ok (.newarray .int, 2) := by decide +kernel
theorem dX7_init_34 : decode cX7_init 34 = .ok (.putfield 25, 3) := by decide +kernel
theorem dX7_init_37 : decode cX7_init 37 = .ok (.aload_n 0, 1) := by decide +kernel
theorem dX7_init_38 : decode cX7_init 38 = .ok (.bipush 6, 2) := by decide +kernel
theorem dX7_init_40 : decode cX7_init 40 = .ok (.newarray .int, 2) := by decide +kernel
theorem dX7_init_42 : decode cX7_init 42 = .ok (.putfield 28, 3) := by decide +kernel
theorem dX7_init_45 : decode cX7_init 45 = .ok (.return_, 1) := by decide +kernel
theorem dX7_note_0 : decode cX7_note 0 = .ok (.aload_n 0, 1) := by decide +kernel
theorem dX7_note_1 : decode cX7_note 1 = .ok (.getfield 9, 3) := by decide +kernel
theorem dX7_note_4 : decode cX7_note 4 = .ok (.bipush 6, 2) := by decide +kernel
theorem dX7_note_6 : decode cX7_note 6 = .ok (.if_icmp .lt 5, 3) := by decide +kernel
theorem dX7_note_9 : decode cX7_note 9 = .ok (.iconst 0, 1) := by decide +kernel
theorem dX7_note_10 : decode cX7_note 10 = .ok (.ireturn, 1) := by decide +kernel
theorem dX7_note_11 : decode cX7_note 11 = .ok (.aload_n 0, 1) := by decide +kernel
theorem dX7_note_12 : decode cX7_note 12 = .ok (.getfield 21, 3) := by decide +kernel
theorem dX7_note_15 : decode cX7_note 15 = .ok (.aload_n 0, 1) := by decide +kernel
theorem dX7_note_16 : decode cX7_note 16 = .ok (.getfield 9, 3) := by decide +kernel
theorem dX7_note_19 : decode cX7_note 19 = .ok (.iload_n 1, 1) := by decide +kernel
theorem dX7_note_20 : decode cX7_note 20 = .ok (.iastore, 1) := by decide +kernel
theorem dX7_note_21 : decode cX7_note 21 = .ok (.aload_n 0, 1) := by decide +kernel
theorem dX7_note_22 : decode cX7_note 22 = .ok (.getfield 25, 3) := by decide +kernel
theorem dX7_note_25 : decode cX7_note 25 = .ok (.aload_n 0, 1) := by decide +kernel
theorem dX7_note_26 : decode cX7_note 26 = .ok (.getfield 9, 3) := by decide +kernel
theorem dX7_note_29 : decode cX7_note 29 = .ok (.iload_n 2, 1) := by decide +kernel
theorem dX7_note_30 : decode cX7_note 30 = .ok (.iastore, 1) := by decide +kernel
theorem dX7_note_31 : decode cX7_note 31 = .ok (.aload_n 0, 1) := by decide +kernel
theorem dX7_note_32 : decode cX7_note 32 = .ok (.getfield 28, 3) := by decide +kernel
theorem dX7_note_35 : decode cX7_note 35 = .ok (.aload_n 0, 1) := by decide +kernel
theorem dX7_note_36 : decode cX7_note 36 = .ok (.getfield 9, 3) := by decide +kernel
theorem dX7_note_39 : decode cX7_note 39 = .ok (.iload_n 3, 1) := by decide +kernel
theorem dX7_note_40 : decode cX7_note 40 = .ok (.iastore, 1) := by decide +kernel
theorem dX7_note_41 : decode cX7_note 41 = .ok (.aload_n 0, 1) := by decide +kernel
theorem dX7_note_42 : decode cX7_note 42 = .ok (.dup, 1) := by decide +kernel
theorem dX7_note_43 : decode cX7_note 43 = .ok (.getfield 9, 3) := by decide +kernel
theorem dX7_note_46 : decode cX7_note 46 = .ok (.iconst 1, 1) := by decide +kernel
theorem dX7_note_47 : decode cX7_note 47 = .ok (.iadd, 1) := by decide +kernel
theorem dX7_note_48 : decode cX7_note 48 = .ok (.putfield 9, 3) := by decide +kernel
theorem dX7_note_51 : decode cX7_note 51 = .ok (.iconst 1, 1) := by decide +kernel
theorem dX7_note_52 : decode cX7_note 52 = .ok (.ireturn, 1) := by decide +kernel
theorem dX7_suspects_0 : decode cX7_suspects 0 = .ok (.iconst 0, 1) := by decide +kernel
theorem dX7_suspects_1 : decode cX7_suspects 1 = .ok (.istore_n 2, 1) := by decide +kernel
theorem dX7_suspects_2 : decode cX7_suspects 2 = .ok (.iconst 0, 1) := by decide +kernel
theorem dX7_suspects_3 : decode cX7_suspects 3 = .ok (.istore_n 3, 1) := by decide +kernel
theorem dX7_suspects_4 : decode cX7_suspects 4 = .ok (.iload_n 3, 1) := by decide +kernel
theorem dX7_suspects_5 : decode cX7_suspects 5 = .ok (.aload_n 1, 1) := by decide +kernel
theorem dX7_suspects_6 : decode cX7_suspects 6 = .ok (.getfield 31, 3) := by decide +kernel
theorem dX7_suspects_9 : decode cX7_suspects 9 = .ok (.if_icmp .ge 24, 3) := by decide +kernel
theorem dX7_suspects_12 : decode cX7_suspects 12 = .ok (.aload_n 0, 1) := by decide +kernel
theorem dX7_suspects_13 : decode cX7_suspects 13 = .ok (.aload_n 1, 1) := by decide +kernel
theorem dX7_suspects_14 : decode cX7_suspects 14 = .ok (.iload_n 3, 1) := by decide +kernel
theorem dX7_suspects_15 : decode cX7_suspects 15 = .ok (.invokevirtual 36, 3) := by decide +kernel
theorem dX7_suspects_18 : decode cX7_suspects 18 = .ok (.ifCond .eq 9, 3) := by decide +kernel
theorem dX7_suspects_21 : decode cX7_suspects 21 = .ok (.iload_n 2, 1) := by decide +kernel
theorem dX7_suspects_22 : decode cX7_suspects 22 = .ok (.iconst 1, 1) := by decide +kernel
theorem dX7_suspects_23 : decode cX7_suspects 23 = .ok (.iload_n 3, 1) := by decide +kernel
theorem dX7_suspects_24 : decode cX7_suspects 24 = .ok (.ishl, 1) := by decide +kernel
theorem dX7_suspects_25 : decode cX7_suspects 25 = .ok (.ior, 1) := by decide +kernel
theorem dX7_suspects_26 : decode cX7_suspects 26 = .ok (.istore_n 2, 1) := by decide +kernel
theorem dX7_suspects_27 : decode cX7_suspects 27 = .ok (.iinc 3 1, 3) := by decide +kernel
theorem dX7_suspects_30 : decode cX7_suspects 30 = .ok (.goto (-26), 3) := by decide +kernel
theorem dX7_suspects_33 : decode cX7_suspects 33 = .ok (.iload_n 2, 1) := by decide +kernel
theorem dX7_suspects_34 : decode cX7_suspects 34 = .ok (.ireturn, 1) := by decide +kernel
theorem dX7_agrees_0 : decode cX7_agrees 0 = .ok (.iconst 0, 1) := by decide +kernel
theorem dX7_agrees_1 : decode cX7_agrees 1 = .ok (.istore_n 3, 1) := by decide +kernel
theorem dX7_agrees_2 : decode cX7_agrees 2 = .ok (.iload_n 3, 1) := by decide +kernel
theorem dX7_agrees_3 : decode cX7_agrees 3 = .ok (.aload_n 0, 1) := by decide +kernel
theorem dX7_agrees_4 : decode cX7_agrees 4 = .ok (.getfield 9, 3) := by decide +kernel
theorem dX7_agrees_7 : decode cX7_agrees 7 = .ok (.if_icmp .ge 46, 3) := by decide +kernel
theorem dX7_agrees_10 : decode cX7_agrees 10 = .ok (.aload_n 1, 1) := by decide +kernel
theorem dX7_agrees_11 : decode cX7_agrees 11 = .ok (.aload_n 0, 1) := by decide +kernel
theorem dX7_agrees_12 : decode cX7_agrees 12 = .ok (.getfield 21, 3) := by decide +kernel
theorem dX7_agrees_15 : decode cX7_agrees 15 = .ok (.iload_n 3, 1) := by decide +kernel
theorem dX7_agrees_16 : decode cX7_agrees 16 = .ok (.iaload, 1) := by decide +kernel
theorem dX7_agrees_17 : decode cX7_agrees 17 = .ok (.aload_n 0, 1) := by decide +kernel
theorem dX7_agrees_18 : decode cX7_agrees 18 = .ok (.getfield 25, 3) := by decide +kernel
theorem dX7_agrees_21 : decode cX7_agrees 21 = .ok (.iload_n 3, 1) := by decide +kernel
theorem dX7_agrees_22 : decode cX7_agrees 22 = .ok (.iaload, 1) := by decide +kernel
theorem dX7_agrees_23 : decode cX7_agrees 23 = .ok (.iload_n 2, 1) := by decide +kernel
theorem dX7_agrees_24 : decode cX7_agrees 24 = .ok (.invokestatic 40, 3) := by decide +kernel
theorem dX7_agrees_27 : decode cX7_agrees 27 = .ok (.aload_n 0, 1) := by decide +kernel
theorem dX7_agrees_28 : decode cX7_agrees 28 = .ok (.getfield 28, 3) := by decide +kernel
theorem dX7_agrees_31 : decode cX7_agrees 31 = .ok (.iload_n 3, 1) := by decide +kernel
theorem dX7_agrees_32 : decode cX7_agrees 32 = .ok (.iaload, 1) := by decide +kernel
theorem dX7_agrees_33 : decode cX7_agrees 33 = .ok (.iconst 1, 1) := by decide +kernel
theorem dX7_agrees_34 : decode cX7_agrees 34 = .ok (.if_icmp .ne 7, 3) := by decide +kernel
theorem dX7_agrees_37 : decode cX7_agrees 37 = .ok (.iconst 1, 1) := by decide +kernel
theorem dX7_agrees_38 : decode cX7_agrees 38 = .ok (.goto 4, 3) := by decide +kernel
theorem dX7_agrees_41 : decode cX7_agrees 41 = .ok (.iconst 0, 1) := by decide +kernel
theorem dX7_agrees_42 : decode cX7_agrees 42 = .ok (.if_icmp .eq 5, 3) := by decide +kernel
theorem dX7_agrees_45 : decode cX7_agrees 45 = .ok (.iconst 0, 1) := by decide +kernel
theorem dX7_agrees_46 : decode cX7_agrees 46 = .ok (.ireturn, 1) := by decide +kernel
theorem dX7_agrees_47 : decode cX7_agrees 47 = .ok (.iinc 3 1, 3) := by decide +kernel
theorem dX7_agrees_50 : decode cX7_agrees 50 = .ok (.goto (-48), 3) := by decide +kernel
theorem dX7_agrees_53 : decode cX7_agrees 53 = .ok (.iconst 1, 1) := by decide +kernel
theorem dX7_agrees_54 : decode cX7_agrees 54 = .ok (.ireturn, 1) := by decide +kernel
theorem dX7_breaks_0 : decode cX7_breaks 0 = .ok (.iload_n 1, 1) := by decide +kernel
theorem dX7_breaks_1 : decode cX7_breaks 1 = .ok (.iload_n 3, 1) := by decide +kernel
theorem dX7_breaks_2 : decode cX7_breaks 2 = .ok (.if_icmp .ne 14, 3) := by decide +kernel
theorem dX7_breaks_5 : decode cX7_breaks 5 = .ok (.aload_n 0, 1) := by decide +kernel
theorem dX7_breaks_6 : decode cX7_breaks 6 = .ok (.getfield 44, 3) := by decide +kernel
theorem dX7_breaks_9 : decode cX7_breaks 9 = .ok (.iload_n 1, 1) := by decide +kernel
theorem dX7_breaks_10 : decode cX7_breaks 10 = .ok (.iaload, 1) := by decide +kernel
theorem dX7_breaks_11 : decode cX7_breaks 11 = .ok (.iconst 2, 1) := by decide +kernel
theorem dX7_breaks_12 : decode cX7_breaks 12 = .ok (.idiv, 1) := by decide +kernel
theorem dX7_breaks_13 : decode cX7_breaks 13 = .ok (.goto 9, 3) := by decide +kernel
theorem dX7_breaks_16 : decode cX7_breaks 16 = .ok (.aload_n 0, 1) := by decide +kernel
theorem dX7_breaks_17 : decode cX7_breaks 17 = .ok (.getfield 44, 3) := by decide +kernel
theorem dX7_breaks_20 : decode cX7_breaks 20 = .ok (.iload_n 1, 1) := by decide +kernel
theorem dX7_breaks_21 : decode cX7_breaks 21 = .ok (.iaload, 1) := by decide +kernel
theorem dX7_breaks_22 : decode cX7_breaks 22 = .ok (.istore 4, 2) := by decide +kernel
theorem dX7_breaks_24 : decode cX7_breaks 24 = .ok (.iload 4, 2) := by decide +kernel
theorem dX7_breaks_26 : decode cX7_breaks 26 = .ok (.iload_n 2, 1) := by decide +kernel
theorem dX7_breaks_27 : decode cX7_breaks 27 = .ok (.if_icmp .ge 7, 3) := by decide +kernel
theorem dX7_breaks_30 : decode cX7_breaks 30 = .ok (.iconst 1, 1) := by decide +kernel
theorem dX7_breaks_31 : decode cX7_breaks 31 = .ok (.goto 4, 3) := by decide +kernel
theorem dX7_breaks_34 : decode cX7_breaks 34 = .ok (.iconst 0, 1) := by decide +kernel
theorem dX7_breaks_35 : decode cX7_breaks 35 = .ok (.ireturn, 1) := by decide +kernel
theorem dX7_seekTrial_0 : decode cX7_seekTrial 0 = .ok (.aload_n 0, 1) := by decide +kernel
theorem dX7_seekTrial_1 : decode cX7_seekTrial 1 = .ok (.aload_n 1, 1) := by decide +kernel
theorem dX7_seekTrial_2 : decode cX7_seekTrial 2 = .ok (.invokevirtual 47, 3) := by decide +kernel
theorem dX7_seekTrial_5 : decode cX7_seekTrial 5 = .ok (.istore_n 2, 1) := by decide +kernel
theorem dX7_seekTrial_6 : decode cX7_seekTrial 6 = .ok (.bipush 7, 2) := by decide +kernel
theorem dX7_seekTrial_8 : decode cX7_seekTrial 8 = .ok (.istore_n 3, 1) := by decide +kernel
theorem dX7_seekTrial_9 : decode cX7_seekTrial 9 = .ok (.iconst 0, 1) := by decide +kernel
theorem dX7_seekTrial_10 : decode cX7_seekTrial 10 = .ok (.istore 4, 2) := by decide +kernel
theorem dX7_seekTrial_12 : decode cX7_seekTrial 12 = .ok (.iload 4, 2) := by decide +kernel
theorem dX7_seekTrial_14 : decode cX7_seekTrial 14 = .ok (.aload_n 1, 1) := by decide +kernel
theorem dX7_seekTrial_15 : decode cX7_seekTrial 15 = .ok (.getfield 31, 3) := by decide +kernel
theorem dX7_seekTrial_18 : decode cX7_seekTrial 18 = .ok (.if_icmp .ge 57, 3) := by decide +kernel
theorem dX7_seekTrial_21 : decode cX7_seekTrial 21 = .ok (.iconst 1, 1) := by decide +kernel
theorem dX7_seekTrial_22 : decode cX7_seekTrial 22 = .ok (.istore 5, 2) := by decide +kernel
theorem dX7_seekTrial_24 : decode cX7_seekTrial 24 = .ok (.iload 5, 2) := by decide +kernel
theorem dX7_seekTrial_26 : decode cX7_seekTrial 26 = .ok (.bipush 40, 2) := by decide +kernel
theorem dX7_seekTrial_28 : decode cX7_seekTrial 28 = .ok (.if_icmp .gt 41, 3) := by decide +kernel
theorem dX7_seekTrial_31 : decode cX7_seekTrial 31 = .ok (.aload_n 1, 1) := by decide +kernel
theorem dX7_seekTrial_32 : decode cX7_seekTrial 32 = .ok (.iload 4, 2) := by decide +kernel
theorem dX7_seekTrial_34 : decode cX7_seekTrial 34 = .ok (.iload 5, 2) := by decide +kernel
theorem dX7_seekTrial_36 : decode cX7_seekTrial 36 = .ok (.iload_n 2, 1) := by decide +kernel
theorem dX7_seekTrial_37 : decode cX7_seekTrial 37 = .ok (.invokestatic 51, 3) := by decide +kernel
theorem dX7_seekTrial_40 : decode cX7_seekTrial 40 = .ok (.istore 6, 2) := by decide +kernel
theorem dX7_seekTrial_42 : decode cX7_seekTrial 42 = .ok (.iload 6, 2) := by decide +kernel
theorem dX7_seekTrial_44 : decode cX7_seekTrial 44 = .ok (.iload_n 3, 1) := by decide +kernel
theorem dX7_seekTrial_45 : decode cX7_seekTrial 45 = .ok (.if_icmp .ge 18, 3) := by decide +kernel
theorem dX7_seekTrial_48 : decode cX7_seekTrial 48 = .ok (.iload 6, 2) := by decide +kernel
theorem dX7_seekTrial_50 : decode cX7_seekTrial 50 = .ok (.istore_n 3, 1) := by decide +kernel
theorem dX7_seekTrial_51 : decode cX7_seekTrial 51 = .ok (.aload_n 0, 1) := by decide +kernel
theorem dX7_seekTrial_52 : decode cX7_seekTrial 52 = .ok (.iload 4, 2) := by decide +kernel
theorem dX7_seekTrial_54 : decode cX7_seekTrial 54 = .ok (.putfield 15, 3) := by decide +kernel
theorem dX7_seekTrial_57 : decode cX7_seekTrial 57 = .ok (.aload_n 0, 1) := by decide +kernel
theorem dX7_seekTrial_58 : decode cX7_seekTrial 58 = .ok (.iload 5, 2) := by decide +kernel
theorem dX7_seekTrial_60 : decode cX7_seekTrial 60 = .ok (.putfield 18, 3) := by decide +kernel
theorem dX7_seekTrial_63 : decode cX7_seekTrial 63 = .ok (.iinc 5 1, 3) := by decide +kernel
theorem dX7_seekTrial_66 : decode cX7_seekTrial 66 = .ok (.goto (-42), 3) := by decide +kernel
theorem dX7_seekTrial_69 : decode cX7_seekTrial 69 = .ok (.iinc 4 1, 3) := by decide +kernel
theorem dX7_seekTrial_72 : decode cX7_seekTrial 72 = .ok (.goto (-60), 3) := by decide +kernel
theorem dX7_seekTrial_75 : decode cX7_seekTrial 75 = .ok (.return_, 1) := by decide +kernel
theorem dX7_leftAtWorst_0 : decode cX7_leftAtWorst 0 = .ok (.iconst 0, 1) := by decide +kernel
theorem dX7_leftAtWorst_1 : decode cX7_leftAtWorst 1 = .ok (.istore 4, 2) := by decide +kernel
theorem dX7_leftAtWorst_3 : decode cX7_leftAtWorst 3 = .ok (.iconst 0, 1) := by decide +kernel
theorem dX7_leftAtWorst_4 : decode cX7_leftAtWorst 4 = .ok (.istore 5, 2) := by decide +kernel
theorem dX7_leftAtWorst_6 : decode cX7_leftAtWorst 6 = .ok (.iload 5, 2) := by decide +kernel
theorem dX7_leftAtWorst_8 : decode cX7_leftAtWorst 8 = .ok (.aload_n 0, 1) := by decide +kernel
theorem dX7_leftAtWorst_9 : decode cX7_leftAtWorst 9 = .ok (.getfield 31, 3) := by decide +kernel
theorem dX7_leftAtWorst_12 : decode cX7_leftAtWorst 12 = .ok (.if_icmp .ge 32, 3) := by decide +kernel
theorem dX7_leftAtWorst_15 : decode cX7_leftAtWorst 15 = .ok (.iload_n 3, 1) := by decide +kernel
theorem dX7_leftAtWorst_16 : decode cX7_leftAtWorst 16 = .ok (.iload 5, 2) := by decide +kernel
theorem dX7_leftAtWorst_18 : decode cX7_leftAtWorst 18 = .ok (.ishr, 1) := by decide +kernel
theorem dX7_leftAtWorst_19 : decode cX7_leftAtWorst 19 = .ok (.iconst 1, 1) := by decide +kernel
theorem dX7_leftAtWorst_20 : decode cX7_leftAtWorst 20 = .ok (.iand, 1) := by decide +kernel
theorem dX7_leftAtWorst_21 : decode cX7_leftAtWorst 21 = .ok (.ifCond .eq 17, 3) := by decide +kernel
theorem dX7_leftAtWorst_24 : decode cX7_leftAtWorst 24 = .ok (.aload_n 0, 1) := by decide +kernel
theorem dX7_leftAtWorst_25 : decode cX7_leftAtWorst 25 = .ok (.iload_n 1, 1) := by decide +kernel
theorem dX7_leftAtWorst_26 : decode cX7_leftAtWorst 26 = .ok (.iload_n 2, 1) := by decide +kernel
theorem dX7_leftAtWorst_27 : decode cX7_leftAtWorst 27 = .ok (.iload 5, 2) := by decide +kernel
theorem dX7_leftAtWorst_29 : decode cX7_leftAtWorst 29 = .ok (.invokestatic 40, 3) := by decide +kernel
theorem dX7_leftAtWorst_32 : decode cX7_leftAtWorst 32 = .ok (.ifCond .eq 6, 3) := by decide +kernel
theorem dX7_leftAtWorst_35 : decode cX7_leftAtWorst 35 = .ok (.iinc 4 1, 3) := by decide +kernel
theorem dX7_leftAtWorst_38 : decode cX7_leftAtWorst 38 = .ok (.iinc 5 1, 3) := by decide +kernel
theorem dX7_leftAtWorst_41 : decode cX7_leftAtWorst 41 = .ok (.goto (-35), 3) := by decide +kernel
theorem dX7_leftAtWorst_44 : decode cX7_leftAtWorst 44 = .ok (.iload 4, 2) := by decide +kernel
theorem dX7_leftAtWorst_46 : decode cX7_leftAtWorst 46 = .ok (.iload_n 3, 1) := by decide +kernel
theorem dX7_leftAtWorst_47 : decode cX7_leftAtWorst 47 = .ok (.invokestatic 55, 3) := by decide +kernel
theorem dX7_leftAtWorst_50 : decode cX7_leftAtWorst 50 = .ok (.iload 4, 2) := by decide +kernel
theorem dX7_leftAtWorst_52 : decode cX7_leftAtWorst 52 = .ok (.isub, 1) := by decide +kernel
theorem dX7_leftAtWorst_53 : decode cX7_leftAtWorst 53 = .ok (.invokestatic 61, 3) := by decide +kernel
theorem dX7_leftAtWorst_56 : decode cX7_leftAtWorst 56 = .ok (.ireturn, 1) := by decide +kernel
theorem dX8_init_0 : decode cX8_init 0 = .ok (.aload_n 0, 1) := by decide +kernel
theorem dX8_init_1 : decode cX8_init 1 = .ok (.invokespecial 5, 3) := by decide +kernel
theorem dX8_init_4 : decode cX8_init 4 = .ok (.aload_n 0, 1) := by decide +kernel
theorem dX8_init_5 : decode cX8_init 5 = .ok (.bipush 42, 2) := by decide +kernel
theorem dX8_init_7 : decode cX8_init 7 = .ok (.newarray .int, 2) := by decide +kernel
theorem dX8_init_9 : decode cX8_init 9 = .ok (.putfield 11, 3) := by decide +kernel
theorem dX8_init_12 : decode cX8_init 12 = .ok (.return_, 1) := by decide +kernel
theorem dX8_begin_0 : decode cX8_begin 0 = .ok (.iconst 0, 1) := by decide +kernel
theorem dX8_begin_1 : decode cX8_begin 1 = .ok (.istore_n 2, 1) := by decide +kernel
theorem dX8_begin_2 : decode cX8_begin 2 = .ok (.iload_n 2, 1) := by decide +kernel
theorem dX8_begin_3 : decode cX8_begin 3 = .ok (.iconst 5, 1) := by decide +kernel
theorem dX8_begin_4 : decode cX8_begin 4 = .ok (.if_icmp .ge 17, 3) := by decide +kernel
theorem dX8_begin_7 : decode cX8_begin 7 = .ok (.aload_n 0, 1) := by decide +kernel
theorem dX8_begin_8 : decode cX8_begin 8 = .ok (.getfield 11, 3) := by decide +kernel
theorem dX8_begin_11 : decode cX8_begin 11 = .ok (.iload_n 2, 1) := by decide +kernel
theorem dX8_begin_12 : decode cX8_begin 12 = .ok (.bipush (-9), 2) := by decide +kernel
theorem dX8_begin_14 : decode cX8_begin 14 = .ok (.iastore, 1) := by decide +kernel
theorem dX8_begin_15 : decode cX8_begin 15 = .ok (.iinc 2 1, 3) := by decide +kernel
theorem dX8_begin_18 : decode cX8_begin 18 = .ok (.goto (-16), 3) := by decide +kernel
theorem dX8_begin_21 : decode cX8_begin 21 = .ok (.iconst 0, 1) := by decide +kernel
theorem dX8_begin_22 : decode cX8_begin 22 = .ok (.istore_n 2, 1) := by decide +kernel
theorem dX8_begin_23 : decode cX8_begin 23 = .ok (.iload_n 2, 1) := by decide +kernel
theorem dX8_begin_24 : decode cX8_begin 24 = .ok (.bipush 12, 2) := by decide +kernel
theorem dX8_begin_26 : decode cX8_begin 26 = .ok (.if_icmp .ge 20, 3) := by decide +kernel
theorem dX8_begin_29 : decode cX8_begin 29 = .ok (.aload_n 0, 1) := by decide +kernel
theorem dX8_begin_30 : decode cX8_begin 30 = .ok (.iload_n 2, 1) := by decide +kernel
theorem dX8_begin_31 : decode cX8_begin 31 = .ok (.aload_n 1, 1) := by decide +kernel
theorem dX8_begin_32 : decode cX8_begin 32 = .ok (.getfield 15, 3) := by decide +kernel
theorem dX8_begin_35 : decode cX8_begin 35 = .ok (.iload_n 2, 1) := by decide +kernel
theorem dX8_begin_36 : decode cX8_begin 36 = .ok (.iaload, 1) := by decide +kernel
theorem dX8_begin_37 : decode cX8_begin 37 = .ok (.invokevirtual 20, 3) := by decide +kernel
theorem dX8_begin_40 : decode cX8_begin 40 = .ok (.iinc 2 1, 3) := by decide +kernel
theorem dX8_begin_43 : decode cX8_begin 43 = .ok (.goto (-20), 3) := by decide +kernel
theorem dX8_begin_46 : decode cX8_begin 46 = .ok (.aload_n 0, 1) := by decide +kernel
theorem dX8_begin_47 : decode cX8_begin 47 = .ok (.getfield 11, 3) := by decide +kernel
theorem dX8_begin_50 : decode cX8_begin 50 = .ok (.bipush 41, 2) := by decide +kernel
theorem dX8_begin_52 : decode cX8_begin 52 = .ok (.iconst 0, 1) := by decide +kernel
theorem dX8_begin_53 : decode cX8_begin 53 = .ok (.iastore, 1) := by decide +kernel
theorem dX8_begin_54 : decode cX8_begin 54 = .ok (.return_, 1) := by decide +kernel
theorem dX8_copyFrom_0 : decode cX8_copyFrom 0 = .ok (.aload_n 1, 1) := by decide +kernel
theorem dX8_copyFrom_1 : decode cX8_copyFrom 1 = .ok (.arraylength, 1) := by decide +kernel
theorem dX8_copyFrom_2 : decode cX8_copyFrom 2 = .ok (.bipush 42, 2) := by decide +kernel
theorem dX8_copyFrom_4 : decode cX8_copyFrom 4 = .ok (.if_icmp .lt 15, 3) := by decide +kernel
theorem dX8_copyFrom_7 : decode cX8_copyFrom 7 = .ok (.aload_n 1, 1) := by decide +kernel
theorem dX8_copyFrom_8 : decode cX8_copyFrom 8 = .ok (.iconst 0, 1) := by decide +kernel
theorem dX8_copyFrom_9 : decode cX8_copyFrom 9 = .ok (.aload_n 0, 1) := by decide +kernel
theorem dX8_copyFrom_10 : decode cX8_copyFrom 10 = .ok (.getfield 11, 3) := by decide +kernel
theorem dX8_copyFrom_13 : decode cX8_copyFrom 13 = .ok (.iconst 0, 1) := by decide +kernel
theorem dX8_copyFrom_14 : decode cX8_copyFrom 14 = .ok (.bipush 42, 2) := by decide +kernel
theorem dX8_copyFrom_16 : decode cX8_copyFrom 16 = .ok (.invokestatic 24, 3) := by decide +kernel
theorem dX8_copyFrom_19 : decode cX8_copyFrom 19 = .ok (.return_, 1) := by decide +kernel
theorem dX8_copyTo_0 : decode cX8_copyTo 0 = .ok (.aload_n 1, 1) := by decide +kernel
theorem dX8_copyTo_1 : decode cX8_copyTo 1 = .ok (.arraylength, 1) := by decide +kernel
theorem dX8_copyTo_2 : decode cX8_copyTo 2 = .ok (.bipush 42, 2) := by decide +kernel
theorem dX8_copyTo_4 : decode cX8_copyTo 4 = .ok (.if_icmp .lt 15, 3) := by decide +kernel
theorem dX8_copyTo_7 : decode cX8_copyTo 7 = .ok (.aload_n 0, 1) := by decide +kernel
theorem dX8_copyTo_8 : decode cX8_copyTo 8 = .ok (.getfield 11, 3) := by decide +kernel
theorem dX8_copyTo_11 : decode cX8_copyTo 11 = .ok (.iconst 0, 1) := by decide +kernel
theorem dX8_copyTo_12 : decode cX8_copyTo 12 = .ok (.aload_n 1, 1) := by decide +kernel
theorem dX8_copyTo_13 : decode cX8_copyTo 13 = .ok (.iconst 0, 1) := by decide +kernel
theorem dX8_copyTo_14 : decode cX8_copyTo 14 = .ok (.bipush 42, 2) := by decide +kernel
theorem dX8_copyTo_16 : decode cX8_copyTo 16 = .ok (.invokestatic 24, 3) := by decide +kernel
theorem dX8_copyTo_19 : decode cX8_copyTo 19 = .ok (.return_, 1) := by decide +kernel
theorem dX8_plankUnder_0 : decode cX8_plankUnder 0 = .ok (.aload_n 0, 1) := by decide +kernel
theorem dX8_plankUnder_1 : decode cX8_plankUnder 1 = .ok (.getfield 11, 3) := by decide +kernel
theorem dX8_plankUnder_4 : decode cX8_plankUnder 4 = .ok (.iload_n 1, 1) := by decide +kernel
theorem dX8_plankUnder_5 : decode cX8_plankUnder 5 = .ok (.iaload, 1) := by decide +kernel
theorem dX8_plankUnder_6 : decode cX8_plankUnder 6 = .ok (.ireturn, 1) := by decide +kernel
theorem dX8_kindOf_0 : decode cX8_kindOf 0 = .ok (.aload_n 0, 1) := by decide +kernel
theorem dX8_kindOf_1 : decode cX8_kindOf 1 = .ok (.getfield 11, 3) := by decide +kernel
theorem dX8_kindOf_4 : decode cX8_kindOf 4 = .ok (.iconst 5, 1) := by decide +kernel
theorem dX8_kindOf_5 : decode cX8_kindOf 5 = .ok (.iload_n 1, 1) := by decide +kernel
theorem dX8_kindOf_6 : decode cX8_kindOf 6 = .ok (.iadd, 1) := by decide +kernel
theorem dX8_kindOf_7 : decode cX8_kindOf 7 = .ok (.iaload, 1) := by decide +kernel
theorem dX8_kindOf_8 : decode cX8_kindOf 8 = .ok (.ireturn, 1) := by decide +kernel
theorem dX8_wearOf_0 : decode cX8_wearOf 0 = .ok (.aload_n 0, 1) := by decide +kernel
theorem dX8_wearOf_1 : decode cX8_wearOf 1 = .ok (.getfield 11, 3) := by decide +kernel
theorem dX8_wearOf_4 : decode cX8_wearOf 4 = .ok (.bipush 17, 2) := by decide +kernel
theorem dX8_wearOf_6 : decode cX8_wearOf 6 = .ok (.iload_n 1, 1) := by decide +kernel
theorem dX8_wearOf_7 : decode cX8_wearOf 7 = .ok (.iadd, 1) := by decide +kernel
theorem dX8_wearOf_8 : decode cX8_wearOf 8 = .ok (.iaload, 1) := by decide +kernel
theorem dX8_wearOf_9 : decode cX8_wearOf 9 = .ok (.ireturn, 1) := by decide +kernel
theorem dX8_isOut_0 : decode cX8_isOut 0 = .ok (.aload_n 0, 1) := by decide +kernel
theorem dX8_isOut_1 : decode cX8_isOut 1 = .ok (.getfield 11, 3) := by decide +kernel
theorem dX8_isOut_4 : decode cX8_isOut 4 = .ok (.bipush 29, 2) := by decide +kernel
theorem dX8_isOut_6 : decode cX8_isOut 6 = .ok (.iload_n 1, 1) := by decide +kernel
theorem dX8_isOut_7 : decode cX8_isOut 7 = .ok (.iadd, 1) := by decide +kernel
theorem dX8_isOut_8 : decode cX8_isOut 8 = .ok (.iaload, 1) := by decide +kernel
theorem dX8_isOut_9 : decode cX8_isOut 9 = .ok (.ifCond .eq 7, 3) := by decide +kernel
theorem dX8_isOut_12 : decode cX8_isOut 12 = .ok (.iconst 1, 1) := by decide +kernel
theorem dX8_isOut_13 : decode cX8_isOut 13 = .ok (.goto 4, 3) := by decide +kernel
theorem dX8_isOut_16 : decode cX8_isOut 16 = .ok (.iconst 0, 1) := by decide +kernel
theorem dX8_isOut_17 : decode cX8_isOut 17 = .ok (.ireturn, 1) := by decide +kernel
theorem dX8_gales_0 : decode cX8_gales 0 = .ok (.aload_n 0, 1) := by decide +kernel
theorem dX8_gales_1 : decode cX8_gales 1 = .ok (.getfield 11, 3) := by decide +kernel
theorem dX8_gales_4 : decode cX8_gales 4 = .ok (.bipush 41, 2) := by decide +kernel
theorem dX8_gales_6 : decode cX8_gales 6 = .ok (.iaload, 1) := by decide +kernel
theorem dX8_gales_7 : decode cX8_gales 7 = .ok (.ireturn, 1) := by decide +kernel
theorem dX8_put_0 : decode cX8_put 0 = .ok (.aload_n 0, 1) := by decide +kernel
theorem dX8_put_1 : decode cX8_put 1 = .ok (.getfield 11, 3) := by decide +kernel
theorem dX8_put_4 : decode cX8_put 4 = .ok (.iload_n 1, 1) := by decide +kernel
theorem dX8_put_5 : decode cX8_put 5 = .ok (.iload_n 2, 1) := by decide +kernel
theorem dX8_put_6 : decode cX8_put 6 = .ok (.iastore, 1) := by decide +kernel
theorem dX8_put_7 : decode cX8_put 7 = .ok (.return_, 1) := by decide +kernel
theorem dX8_doAnew_0 : decode cX8_doAnew 0 = .ok (.aload_n 0, 1) := by decide +kernel
theorem dX8_doAnew_1 : decode cX8_doAnew 1 = .ok (.getfield 11, 3) := by decide +kernel
theorem dX8_doAnew_4 : decode cX8_doAnew 4 = .ok (.iconst 5, 1) := by decide +kernel
theorem dX8_doAnew_5 : decode cX8_doAnew 5 = .ok (.iload_n 1, 1) := by decide +kernel
theorem dX8_doAnew_6 : decode cX8_doAnew 6 = .ok (.iadd, 1) := by decide +kernel
theorem dX8_doAnew_7 : decode cX8_doAnew 7 = .ok (.iload_n 2, 1) := by decide +kernel
theorem dX8_doAnew_8 : decode cX8_doAnew 8 = .ok (.iastore, 1) := by decide +kernel
theorem dX8_doAnew_9 : decode cX8_doAnew 9 = .ok (.aload_n 0, 1) := by decide +kernel
theorem dX8_doAnew_10 : decode cX8_doAnew 10 = .ok (.getfield 11, 3) := by decide +kernel
theorem dX8_doAnew_13 : decode cX8_doAnew 13 = .ok (.bipush 17, 2) := by decide +kernel
theorem dX8_doAnew_15 : decode cX8_doAnew 15 = .ok (.iload_n 1, 1) := by decide +kernel
theorem dX8_doAnew_16 : decode cX8_doAnew 16 = .ok (.iadd, 1) := by decide +kernel
theorem dX8_doAnew_17 : decode cX8_doAnew 17 = .ok (.iconst 0, 1) := by decide +kernel
theorem dX8_doAnew_18 : decode cX8_doAnew 18 = .ok (.iastore, 1) := by decide +kernel
theorem dX8_doAnew_19 : decode cX8_doAnew 19 = .ok (.aload_n 0, 1) := by decide +kernel
theorem dX8_doAnew_20 : decode cX8_doAnew 20 = .ok (.getfield 11, 3) := by decide +kernel
theorem dX8_doAnew_23 : decode cX8_doAnew 23 = .ok (.bipush 29, 2) := by decide +kernel
theorem dX8_doAnew_25 : decode cX8_doAnew 25 = .ok (.iload_n 1, 1) := by decide +kernel
theorem dX8_doAnew_26 : decode cX8_doAnew 26 = .ok (.iadd, 1) := by decide +kernel
theorem dX8_doAnew_27 : decode cX8_doAnew 27 = .ok (.iconst 0, 1) := by decide +kernel
theorem dX8_doAnew_28 : decode cX8_doAnew 28 = .ok (.iastore, 1) := by decide +kernel
theorem dX8_doAnew_29 : decode cX8_doAnew 29 = .ok (.return_, 1) := by decide +kernel
theorem dX8_blow_0 : decode cX8_blow 0 = .ok (.iconst 0, 1) := by decide +kernel
theorem dX8_blow_1 : decode cX8_blow 1 = .ok (.istore_n 3, 1) := by decide +kernel
theorem dX8_blow_2 : decode cX8_blow 2 = .ok (.iload_n 3, 1) := by decide +kernel
theorem dX8_blow_3 : decode cX8_blow 3 = .ok (.aload_n 1, 1) := by decide +kernel
theorem dX8_blow_4 : decode cX8_blow 4 = .ok (.invokevirtual 30, 3) := by decide +kernel
theorem dX8_blow_7 : decode cX8_blow 7 = .ok (.if_icmp .ge 30, 3) := by decide +kernel
theorem dX8_blow_10 : decode cX8_blow 10 = .ok (.aload_n 0, 1) := by decide +kernel
theorem dX8_blow_11 : decode cX8_blow 11 = .ok (.iload_n 3, 1) := by decide +kernel
theorem dX8_blow_12 : decode cX8_blow 12 = .ok (.invokevirtual 34, 3) := by decide +kernel
theorem dX8_blow_15 : decode cX8_blow 15 = .ok (.ifCond .ne 16, 3) := by decide +kernel
theorem dX8_blow_18 : decode cX8_blow 18 = .ok (.aload_n 0, 1) := by decide +kernel
theorem dX8_blow_19 : decode cX8_blow 19 = .ok (.iload_n 3, 1) := by decide +kernel
theorem dX8_blow_20 : decode cX8_blow 20 = .ok (.aload_n 1, 1) := by decide +kernel
theorem dX8_blow_21 : decode cX8_blow 21 = .ok (.iload_n 3, 1) := by decide +kernel
theorem dX8_blow_22 : decode cX8_blow 22 = .ok (.iconst 2, 1) := by decide +kernel
theorem dX8_blow_23 : decode cX8_blow 23 = .ok (.idiv, 1) := by decide +kernel
theorem dX8_blow_24 : decode cX8_blow 24 = .ok (.invokevirtual 38, 3) := by decide +kernel
theorem dX8_blow_27 : decode cX8_blow 27 = .ok (.iload_n 2, 1) := by decide +kernel
theorem dX8_blow_28 : decode cX8_blow 28 = .ok (.invokevirtual 42, 3) := by decide +kernel
theorem dX8_blow_31 : decode cX8_blow 31 = .ok (.iinc 3 1, 3) := by decide +kernel
theorem dX8_blow_34 : decode cX8_blow 34 = .ok (.goto (-32), 3) := by decide +kernel
theorem dX8_blow_37 : decode cX8_blow 37 = .ok (.aload_n 0, 1) := by decide +kernel
theorem dX8_blow_38 : decode cX8_blow 38 = .ok (.getfield 11, 3) := by decide +kernel
theorem dX8_blow_41 : decode cX8_blow 41 = .ok (.bipush 41, 2) := by decide +kernel
theorem dX8_blow_43 : decode cX8_blow 43 = .ok (.dup2, 1) := by decide +kernel
theorem dX8_blow_44 : decode cX8_blow 44 = .ok (.iaload, 1) := by decide +kernel
theorem dX8_blow_45 : decode cX8_blow 45 = .ok (.iconst 1, 1) := by decide +kernel
theorem dX8_blow_46 : decode cX8_blow 46 = .ok (.iadd, 1) := by decide +kernel
theorem dX8_blow_47 : decode cX8_blow 47 = .ok (.iastore, 1) := by decide +kernel
theorem dX8_blow_48 : decode cX8_blow 48 = .ok (.return_, 1) := by decide +kernel
theorem dX8_shake_0 : decode cX8_shake 0 = .ok (.aload_n 0, 1) := by decide +kernel
theorem dX8_shake_1 : decode cX8_shake 1 = .ok (.iload_n 1, 1) := by decide +kernel
theorem dX8_shake_2 : decode cX8_shake 2 = .ok (.invokevirtual 46, 3) := by decide +kernel
theorem dX8_shake_5 : decode cX8_shake 5 = .ok (.istore 4, 2) := by decide +kernel
theorem dX8_shake_7 : decode cX8_shake 7 = .ok (.aload_n 0, 1) := by decide +kernel
theorem dX8_shake_8 : decode cX8_shake 8 = .ok (.getfield 11, 3) := by decide +kernel
theorem dX8_shake_11 : decode cX8_shake 11 = .ok (.bipush 17, 2) := by decide +kernel
theorem dX8_shake_13 : decode cX8_shake 13 = .ok (.iload_n 1, 1) := by decide +kernel
theorem dX8_shake_14 : decode cX8_shake 14 = .ok (.iadd, 1) := by decide +kernel
theorem dX8_shake_15 : decode cX8_shake 15 = .ok (.dup2, 1) := by decide +kernel
theorem dX8_shake_16 : decode cX8_shake 16 = .ok (.iaload, 1) := by decide +kernel
theorem dX8_shake_17 : decode cX8_shake 17 = .ok (.iload 4, 2) := by decide +kernel
theorem dX8_shake_19 : decode cX8_shake 19 = .ok (.iload_n 2, 1) := by decide +kernel
theorem dX8_shake_20 : decode cX8_shake 20 = .ok (.iload_n 3, 1) := by decide +kernel
theorem dX8_shake_21 : decode cX8_shake 21 = .ok (.invokestatic 49, 3) := by decide +kernel
theorem dX8_shake_24 : decode cX8_shake 24 = .ok (.iadd, 1) := by decide +kernel
theorem dX8_shake_25 : decode cX8_shake 25 = .ok (.iastore, 1) := by decide +kernel
theorem dX8_shake_26 : decode cX8_shake 26 = .ok (.iload 4, 2) := by decide +kernel
theorem dX8_shake_28 : decode cX8_shake 28 = .ok (.ifCond .ne 13, 3) := by decide +kernel
theorem dX8_shake_31 : decode cX8_shake 31 = .ok (.iload_n 3, 1) := by decide +kernel
theorem dX8_shake_32 : decode cX8_shake 32 = .ok (.bipush 7, 2) := by decide +kernel
theorem dX8_shake_34 : decode cX8_shake 34 = .ok (.if_icmp .lt 7, 3) := by decide +kernel
theorem dX8_shake_37 : decode cX8_shake 37 = .ok (.iconst 1, 1) := by decide +kernel
theorem dX8_shake_38 : decode cX8_shake 38 = .ok (.goto 4, 3) := by decide +kernel
theorem dX8_shake_41 : decode cX8_shake 41 = .ok (.iconst 0, 1) := by decide +kernel
theorem dX8_shake_42 : decode cX8_shake 42 = .ok (.istore 5, 2) := by decide +kernel
theorem dX8_shake_44 : decode cX8_shake 44 = .ok (.iload 5, 2) := by decide +kernel
theorem dX8_shake_46 : decode cX8_shake 46 = .ok (.ifCond .ne 16, 3) := by decide +kernel
theorem dX8_shake_49 : decode cX8_shake 49 = .ok (.aload_n 0, 1) := by decide +kernel
theorem dX8_shake_50 : decode cX8_shake 50 = .ok (.iload_n 1, 1) := by decide +kernel
theorem dX8_shake_51 : decode cX8_shake 51 = .ok (.invokevirtual 53, 3) := by decide +kernel
theorem dX8_shake_54 : decode cX8_shake 54 = .ok (.iload 4, 2) := by decide +kernel
theorem dX8_shake_56 : decode cX8_shake 56 = .ok (.invokestatic 56, 3) := by decide +kernel
theorem dX8_shake_59 : decode cX8_shake 59 = .ok (.if_icmp .lt 13, 3) := by decide +kernel
theorem dX8_shake_62 : decode cX8_shake 62 = .ok (.aload_n 0, 1) := by decide +kernel
theorem dX8_shake_63 : decode cX8_shake 63 = .ok (.getfield 11, 3) := by decide +kernel
theorem dX8_shake_66 : decode cX8_shake 66 = .ok (.bipush 29, 2) := by decide +kernel
theorem dX8_shake_68 : decode cX8_shake 68 = .ok (.iload_n 1, 1) := by decide +kernel
theorem dX8_shake_69 : decode cX8_shake 69 = .ok (.iadd, 1) := by decide +kernel
theorem dX8_shake_70 : decode cX8_shake 70 = .ok (.iconst 1, 1) := by decide +kernel
theorem dX8_shake_71 : decode cX8_shake 71 = .ok (.iastore, 1) := by decide +kernel
theorem dX8_shake_72 : decode cX8_shake 72 = .ok (.return_, 1) := by decide +kernel
theorem dX8_growBark_0 : decode cX8_growBark 0 = .ok (.iconst 0, 1) := by decide +kernel
theorem dX8_growBark_1 : decode cX8_growBark 1 = .ok (.istore_n 2, 1) := by decide +kernel
theorem dX8_growBark_2 : decode cX8_growBark 2 = .ok (.iconst 0, 1) := by decide +kernel
theorem dX8_growBark_3 : decode cX8_growBark 3 = .ok (.istore_n 3, 1) := by decide +kernel
theorem dX8_growBark_4 : decode cX8_growBark 4 = .ok (.iload_n 3, 1) := by decide +kernel
theorem dX8_growBark_5 : decode cX8_growBark 5 = .ok (.aload_n 1, 1) := by decide +kernel
theorem dX8_growBark_6 : decode cX8_growBark 6 = .ok (.invokevirtual 30, 3) := by decide +kernel
theorem dX8_growBark_9 : decode cX8_growBark 9 = .ok (.if_icmp .ge 57, 3) := by decide +kernel
theorem dX8_growBark_12 : decode cX8_growBark 12 = .ok (.aload_n 0, 1) := by decide +kernel
theorem dX8_growBark_13 : decode cX8_growBark 13 = .ok (.iload_n 3, 1) := by decide +kernel
theorem dX8_growBark_14 : decode cX8_growBark 14 = .ok (.invokevirtual 46, 3) := by decide +kernel
theorem dX8_growBark_17 : decode cX8_growBark 17 = .ok (.iconst 1, 1) := by decide +kernel
theorem dX8_growBark_18 : decode cX8_growBark 18 = .ok (.if_icmp .ne 42, 3) := by decide +kernel
theorem dX8_growBark_21 : decode cX8_growBark 21 = .ok (.aload_n 0, 1) := by decide +kernel
theorem dX8_growBark_22 : decode cX8_growBark 22 = .ok (.iload_n 3, 1) := by decide +kernel
theorem dX8_growBark_23 : decode cX8_growBark 23 = .ok (.invokevirtual 34, 3) := by decide +kernel
theorem dX8_growBark_26 : decode cX8_growBark 26 = .ok (.ifCond .ne 34, 3) := by decide +kernel
theorem dX8_growBark_29 : decode cX8_growBark 29 = .ok (.aload_n 0, 1) := by decide +kernel
theorem dX8_growBark_30 : decode cX8_growBark 30 = .ok (.iload_n 3, 1) := by decide +kernel
theorem dX8_growBark_31 : decode cX8_growBark 31 = .ok (.invokevirtual 53, 3) := by decide +kernel
theorem dX8_growBark_34 : decode cX8_growBark 34 = .ok (.ifCond .le 26, 3) := by decide +kernel
theorem dX8_growBark_37 : decode cX8_growBark 37 = .ok (.aload_n 0, 1) := by decide +kernel
theorem dX8_growBark_38 : decode cX8_growBark 38 = .ok (.getfield 11, 3) := by decide +kernel
theorem dX8_growBark_41 : decode cX8_growBark 41 = .ok (.bipush 17, 2) := by decide +kernel
theorem dX8_growBark_43 : decode cX8_growBark 43 = .ok (.iload_n 3, 1) := by decide +kernel
theorem dX8_growBark_44 : decode cX8_growBark 44 = .ok (.iadd, 1) := by decide +kernel
theorem dX8_growBark_45 : decode cX8_growBark 45 = .ok (.iconst 0, 1) := by decide +kernel
theorem dX8_growBark_46 : decode cX8_growBark 46 = .ok (.aload_n 0, 1) := by decide +kernel
theorem dX8_growBark_47 : decode cX8_growBark 47 = .ok (.iload_n 3, 1) := by decide +kernel
theorem dX8_growBark_48 : decode cX8_growBark 48 = .ok (.invokevirtual 53, 3) := by decide +kernel
theorem dX8_growBark_51 : decode cX8_growBark 51 = .ok (.iconst 2, 1) := by decide +kernel
theorem dX8_growBark_52 : decode cX8_growBark 52 = .ok (.isub, 1) := by decide +kernel
theorem dX8_growBark_53 : decode cX8_growBark 53 = .ok (.invokestatic 59, 3) := by decide +kernel
theorem dX8_growBark_56 : decode cX8_growBark 56 = .ok (.iastore, 1) := by decide +kernel
theorem dX8_growBark_57 : decode cX8_growBark 57 = .ok (.iinc 2 1, 3) := by decide +kernel
theorem dX8_growBark_60 : decode cX8_growBark 60 = .ok (.iinc 3 1, 3) := by decide +kernel
theorem dX8_growBark_63 : decode cX8_growBark 63 = .ok (.goto (-59), 3) := by decide +kernel
theorem dX8_growBark_66 : decode cX8_growBark 66 = .ok (.iload_n 2, 1) := by decide +kernel
theorem dX8_growBark_67 : decode cX8_growBark 67 = .ok (.ireturn, 1) := by decide +kernel
theorem dX8_outs_0 : decode cX8_outs 0 = .ok (.aload_n 0, 1) := by decide +kernel
theorem dX8_outs_1 : decode cX8_outs 1 = .ok (.aload_n 1, 1) := by decide +kernel
theorem dX8_outs_2 : decode cX8_outs 2 = .ok (.invokevirtual 65, 3) := by decide +kernel
theorem dX8_outs_5 : decode cX8_outs 5 = .ok (.invokestatic 69, 3) := by decide +kernel
theorem dX8_outs_8 : decode cX8_outs 8 = .ok (.ireturn, 1) := by decide +kernel
theorem dX8_outBits_0 : decode cX8_outBits 0 = .ok (.iconst 0, 1) := by decide +kernel
theorem dX8_outBits_1 : decode cX8_outBits 1 = .ok (.istore_n 2, 1) := by decide +kernel
theorem dX8_outBits_2 : decode cX8_outBits 2 = .ok (.iconst 0, 1) := by decide +kernel
theorem dX8_outBits_3 : decode cX8_outBits 3 = .ok (.istore_n 3, 1) := by decide +kernel
theorem dX8_outBits_4 : decode cX8_outBits 4 = .ok (.iload_n 3, 1) := by decide +kernel
theorem dX8_outBits_5 : decode cX8_outBits 5 = .ok (.aload_n 1, 1) := by decide +kernel
theorem dX8_outBits_6 : decode cX8_outBits 6 = .ok (.invokevirtual 30, 3) := by decide +kernel
theorem dX8_outBits_9 : decode cX8_outBits 9 = .ok (.if_icmp .ge 23, 3) := by decide +kernel
theorem dX8_outBits_12 : decode cX8_outBits 12 = .ok (.aload_n 0, 1) := by decide +kernel
theorem dX8_outBits_13 : decode cX8_outBits 13 = .ok (.iload_n 3, 1) := by decide +kernel
theorem dX8_outBits_14 : decode cX8_outBits 14 = .ok (.invokevirtual 34, 3) := by decide +kernel
theorem dX8_outBits_17 : decode cX8_outBits 17 = .ok (.ifCond .eq 9, 3) := by decide +kernel
theorem dX8_outBits_20 : decode cX8_outBits 20 = .ok (.iload_n 2, 1) := by decide +kernel
theorem dX8_outBits_21 : decode cX8_outBits 21 = .ok (.iconst 1, 1) := by decide +kernel
theorem dX8_outBits_22 : decode cX8_outBits 22 = .ok (.iload_n 3, 1) := by decide +kernel
theorem dX8_outBits_23 : decode cX8_outBits 23 = .ok (.ishl, 1) := by decide +kernel
theorem dX8_outBits_24 : decode cX8_outBits 24 = .ok (.ior, 1) := by decide +kernel
theorem dX8_outBits_25 : decode cX8_outBits 25 = .ok (.istore_n 2, 1) := by decide +kernel
theorem dX8_outBits_26 : decode cX8_outBits 26 = .ok (.iinc 3 1, 3) := by decide +kernel
theorem dX8_outBits_29 : decode cX8_outBits 29 = .ok (.goto (-25), 3) := by decide +kernel
theorem dX8_outBits_32 : decode cX8_outBits 32 = .ok (.iload_n 2, 1) := by decide +kernel
theorem dX8_outBits_33 : decode cX8_outBits 33 = .ok (.ireturn, 1) := by decide +kernel
theorem dX8_hasBothEnds_0 : decode cX8_hasBothEnds 0 = .ok (.aload_n 0, 1) := by decide +kernel
theorem dX8_hasBothEnds_1 : decode cX8_hasBothEnds 1 = .ok (.iconst 2, 1) := by decide +kernel
theorem dX8_hasBothEnds_2 : decode cX8_hasBothEnds 2 = .ok (.iload_n 1, 1) := by decide +kernel
theorem dX8_hasBothEnds_3 : decode cX8_hasBothEnds 3 = .ok (.imul, 1) := by decide +kernel
theorem dX8_hasBothEnds_4 : decode cX8_hasBothEnds 4 = .ok (.invokevirtual 34, 3) := by decide +kernel
theorem dX8_hasBothEnds_7 : decode cX8_hasBothEnds 7 = .ok (.ifCond .ne 19, 3) := by decide +kernel
theorem dX8_hasBothEnds_10 : decode cX8_hasBothEnds 10 = .ok (.aload_n 0, 1) := by decide +kernel
theorem dX8_hasBothEnds_11 : decode cX8_hasBothEnds 11 = .ok (.iconst 2, 1) := by decide +kernel
theorem dX8_hasBothEnds_12 : decode cX8_hasBothEnds 12 = .ok (.iload_n 1, 1) := by decide +kernel
theorem dX8_hasBothEnds_13 : decode cX8_hasBothEnds 13 = .ok (.imul, 1) := by decide +kernel
theorem dX8_hasBothEnds_14 : decode cX8_hasBothEnds 14 = .ok (.iconst 1, 1) := by decide +kernel
theorem dX8_hasBothEnds_15 : decode cX8_hasBothEnds 15 = .ok (.iadd, 1) := by decide +kernel
theorem dX8_hasBothEnds_16 : decode cX8_hasBothEnds 16 = .ok (.invokevirtual 34, 3) := by decide +kernel
theorem dX8_hasBothEnds_19 : decode cX8_hasBothEnds 19 = .ok (.ifCond .ne 7, 3) := by decide +kernel
theorem dX8_hasBothEnds_22 : decode cX8_hasBothEnds 22 = .ok (.iconst 1, 1) := by decide +kernel
theorem dX8_hasBothEnds_23 : decode cX8_hasBothEnds 23 = .ok (.goto 4, 3) := by decide +kernel
theorem dX8_hasBothEnds_26 : decode cX8_hasBothEnds 26 = .ok (.iconst 0, 1) := by decide +kernel
theorem dX8_hasBothEnds_27 : decode cX8_hasBothEnds 27 = .ok (.ireturn, 1) := by decide +kernel
theorem dX9_init_0 : decode cX9_init 0 = .ok (.aload_n 0, 1) := by decide +kernel
theorem dX9_init_1 : decode cX9_init 1 = .ok (.invokespecial 3, 3) := by decide +kernel
theorem dX9_init_4 : decode cX9_init 4 = .ok (.aload_n 0, 1) := by decide +kernel
theorem dX9_init_5 : decode cX9_init 5 = .ok (.sipush 200, 3) := by decide +kernel
theorem dX9_init_8 : decode cX9_init 8 = .ok (.newarray .int, 2) := by decide +kernel
theorem dX9_init_10 : decode cX9_init 10 = .ok (.putfield 9, 3) := by decide +kernel
theorem dX9_init_13 : decode cX9_init 13 = .ok (.aload_n 0, 1) := by decide +kernel
theorem dX9_init_14 : decode cX9_init 14 = .ok (.iconst 0, 1) := by decide +kernel
theorem dX9_init_15 : decode cX9_init 15 = .ok (.putfield 15, 3) := by decide +kernel
theorem dX9_init_18 : decode cX9_init 18 = .ok (.aload_n 0, 1) := by decide +kernel
theorem dX9_init_19 : decode cX9_init 19 = .ok (.iconst 0, 1) := by decide +kernel
theorem dX9_init_20 : decode cX9_init 20 = .ok (.putfield 19, 3) := by decide +kernel
theorem dX9_init_23 : decode cX9_init 23 = .ok (.aload_n 0, 1) := by decide +kernel
theorem dX9_init_24 : decode cX9_init 24 = .ok (.iconst 0, 1) := by decide +kernel
theorem dX9_init_25 : decode cX9_init 25 = .ok (.putfield 22, 3) := by decide +kernel
theorem dX9_init_28 : decode cX9_init 28 = .ok (.aload_n 0, 1) := by decide +kernel
theorem dX9_init_29 : decode cX9_init 29 = .ok (.iconst 0, 1) := by decide +kernel
theorem dX9_init_30 : decode cX9_init 30 = .ok (.putfield 25, 3) := by decide +kernel
theorem dX9_init_33 : decode cX9_init 33 = .ok (.aload_n 0, 1) := by decide +kernel
theorem dX9_init_34 : decode cX9_init 34 = .ok (.iconst 0, 1) := by decide +kernel
theorem dX9_init_35 : decode cX9_init 35 = .ok (.putfield 28, 3) := by decide +kernel
theorem dX9_init_38 : decode cX9_init 38 = .ok (.aload_n 0, 1) := by decide +kernel
theorem dX9_init_39 : decode cX9_init 39 = .ok (.getstatic 31, 3) := by decide +kernel
theorem dX9_init_42 : decode cX9_init 42 = .ok (.arraylength, 1) := by decide +kernel
theorem dX9_init_43 : decode cX9_init 43 = .ok (.newarray .int, 2) := by decide +kernel
theorem dX9_init_45 : decode cX9_init 45 = .ok (.putfield 34, 3) := by decide +kernel
theorem dX9_init_48 : decode cX9_init 48 = .ok (.return_, 1) := by decide +kernel
theorem dX9_append_0 : decode cX9_append 0 = .ok (.aload_n 0, 1) := by decide +kernel
theorem dX9_append_1 : decode cX9_append 1 = .ok (.getfield 15, 3) := by decide +kernel
theorem dX9_append_4 : decode cX9_append 4 = .ok (.sipush 200, 3) := by decide +kernel
theorem dX9_append_7 : decode cX9_append 7 = .ok (.if_icmp .lt 5, 3) := by decide +kernel
theorem dX9_append_10 : decode cX9_append 10 = .ok (.iconst 0, 1) := by decide +kernel
theorem dX9_append_11 : decode cX9_append 11 = .ok (.ireturn, 1) := by decide +kernel
theorem dX9_append_12 : decode cX9_append 12 = .ok (.aload_n 0, 1) := by decide +kernel
theorem dX9_append_13 : decode cX9_append 13 = .ok (.getfield 9, 3) := by decide +kernel
theorem dX9_append_16 : decode cX9_append 16 = .ok (.aload_n 0, 1) := by decide +kernel
theorem dX9_append_17 : decode cX9_append 17 = .ok (.getfield 15, 3) := by decide +kernel
theorem dX9_append_20 : decode cX9_append 20 = .ok (.iload_n 1, 1) := by decide +kernel
theorem dX9_append_21 : decode cX9_append 21 = .ok (.iastore, 1) := by decide +kernel
theorem dX9_append_22 : decode cX9_append 22 = .ok (.aload_n 0, 1) := by decide +kernel
theorem dX9_append_23 : decode cX9_append 23 = .ok (.dup, 1) := by decide +kernel
theorem dX9_append_24 : decode cX9_append 24 = .ok (.getfield 15, 3) := by decide +kernel
theorem dX9_append_27 : decode cX9_append 27 = .ok (.iconst 1, 1) := by decide +kernel
theorem dX9_append_28 : decode cX9_append 28 = .ok (.iadd, 1) := by decide +kernel
theorem dX9_append_29 : decode cX9_append 29 = .ok (.putfield 15, 3) := by decide +kernel
theorem dX9_append_32 : decode cX9_append 32 = .ok (.iconst 1, 1) := by decide +kernel
theorem dX9_append_33 : decode cX9_append 33 = .ok (.ireturn, 1) := by decide +kernel
theorem dX9_readInto_0 : decode cX9_readInto 0 = .ok (.aload_n 1, 1) := by decide +kernel
theorem dX9_readInto_1 : decode cX9_readInto 1 = .ok (.invokevirtual 37, 3) := by decide +kernel
theorem dX9_readInto_4 : decode cX9_readInto 4 = .ok (.aload_n 0, 1) := by decide +kernel
theorem dX9_readInto_5 : decode cX9_readInto 5 = .ok (.iconst 0, 1) := by decide +kernel
theorem dX9_readInto_6 : decode cX9_readInto 6 = .ok (.putfield 19, 3) := by decide +kernel
theorem dX9_readInto_9 : decode cX9_readInto 9 = .ok (.aload_n 0, 1) := by decide +kernel
theorem dX9_readInto_10 : decode cX9_readInto 10 = .ok (.invokevirtual 42, 3) := by decide +kernel
theorem dX9_readInto_13 : decode cX9_readInto 13 = .ok (.iconst 0, 1) := by decide +kernel
theorem dX9_readInto_14 : decode cX9_readInto 14 = .ok (.istore_n 2, 1) := by decide +kernel
theorem dX9_readInto_15 : decode cX9_readInto 15 = .ok (.aload_n 0, 1) := by decide +kernel
theorem dX9_readInto_16 : decode cX9_readInto 16 = .ok (.getfield 25, 3) := by decide +kernel
theorem dX9_readInto_19 : decode cX9_readInto 19 = .ok (.ifCond .eq 36, 3) := by decide +kernel
theorem dX9_readInto_22 : decode cX9_readInto 22 = .ok (.iload_n 2, 1) := by decide +kernel
theorem dX9_readInto_23 : decode cX9_readInto 23 = .ok (.sipush 200, 3) := by decide +kernel
theorem dX9_readInto_26 : decode cX9_readInto 26 = .ok (.if_icmp .ge 29, 3) := by decide +kernel
theorem dX9_readInto_29 : decode cX9_readInto 29 = .ok (.aload_n 0, 1) := by decide +kernel
theorem dX9_readInto_30 : decode cX9_readInto 30 = .ok (.aload_n 1, 1) := by decide +kernel
theorem dX9_readInto_31 : decode cX9_readInto 31 = .ok (.invokevirtual 45, 3) := by decide +kernel
theorem dX9_readInto_34 : decode cX9_readInto 34 = .ok (.ifCond .ne 11, 3) := by decide +kernel
theorem dX9_readInto_37 : decode cX9_readInto 37 = .ok (.bipush (-10), 2) := by decide +kernel
theorem dX9_readInto_39 : decode cX9_readInto 39 = .ok (.aload_n 0, 1) := by decide +kernel
theorem dX9_readInto_40 : decode cX9_readInto 40 = .ok (.getfield 22, 3) := by decide +kernel
theorem dX9_readInto_43 : decode cX9_readInto 43 = .ok (.isub, 1) := by decide +kernel
theorem dX9_readInto_44 : decode cX9_readInto 44 = .ok (.ireturn, 1) := by decide +kernel
theorem dX9_readInto_45 : decode cX9_readInto 45 = .ok (.iinc 2 1, 3) := by decide +kernel
theorem dX9_readInto_48 : decode cX9_readInto 48 = .ok (.aload_n 0, 1) := by decide +kernel
theorem dX9_readInto_49 : decode cX9_readInto 49 = .ok (.invokevirtual 42, 3) := by decide +kernel
theorem dX9_readInto_52 : decode cX9_readInto 52 = .ok (.goto (-37), 3) := by decide +kernel
theorem dX9_readInto_55 : decode cX9_readInto 55 = .ok (.iload_n 2, 1) := by decide +kernel
theorem dX9_readInto_56 : decode cX9_readInto 56 = .ok (.ireturn, 1) := by decide +kernel
theorem dX9_readItem_0 : decode cX9_readItem 0 = .ok (.aload_n 0, 1) := by decide +kernel
theorem dX9_readItem_1 : decode cX9_readItem 1 = .ok (.getfield 25, 3) := by decide +kernel
theorem dX9_readItem_4 : decode cX9_readItem 4 = .ok (.istore_n 2, 1) := by decide +kernel
theorem dX9_readItem_5 : decode cX9_readItem 5 = .ok (.aload_n 1, 1) := by decide +kernel
theorem dX9_readItem_6 : decode cX9_readItem 6 = .ok (.iload_n 2, 1) := by decide +kernel
theorem dX9_readItem_7 : decode cX9_readItem 7 = .ok (.invokevirtual 49, 3) := by decide +kernel
theorem dX9_readItem_10 : decode cX9_readItem 10 = .ok (.ifCond .ne 5, 3) := by decide +kernel
theorem dX9_readItem_13 : decode cX9_readItem 13 = .ok (.iconst 0, 1) := by decide +kernel
theorem dX9_readItem_14 : decode cX9_readItem 14 = .ok (.ireturn, 1) := by decide +kernel
theorem dX9_readItem_15 : decode cX9_readItem 15 = .ok (.iconst 0, 1) := by decide +kernel
theorem dX9_readItem_16 : decode cX9_readItem 16 = .ok (.istore_n 3, 1) := by decide +kernel
theorem dX9_readItem_17 : decode cX9_readItem 17 = .ok (.iload_n 3, 1) := by decide +kernel
theorem dX9_readItem_18 : decode cX9_readItem 18 = .ok (.iload_n 2, 1) := by decide +kernel
theorem dX9_readItem_19 : decode cX9_readItem 19 = .ok (.invokestatic 53, 3) := by decide +kernel
theorem dX9_readItem_22 : decode cX9_readItem 22 = .ok (.if_icmp .ge 43, 3) := by decide +kernel
theorem dX9_readItem_25 : decode cX9_readItem 25 = .ok (.aload_n 0, 1) := by decide +kernel
theorem dX9_readItem_26 : decode cX9_readItem 26 = .ok (.invokevirtual 42, 3) := by decide +kernel
theorem dX9_readItem_29 : decode cX9_readItem 29 = .ok (.aload_n 0, 1) := by decide +kernel
theorem dX9_readItem_30 : decode cX9_readItem 30 = .ok (.getfield 25, 3) := by decide +kernel
theorem dX9_readItem_33 : decode cX9_readItem 33 = .ok (.iconst 1, 1) := by decide +kernel
theorem dX9_readItem_34 : decode cX9_readItem 34 = .ok (.if_icmp .ne 13, 3) := by decide +kernel
theorem dX9_readItem_37 : decode cX9_readItem 37 = .ok (.aload_n 0, 1) := by decide +kernel
theorem dX9_readItem_38 : decode cX9_readItem 38 = .ok (.aload_n 1, 1) := by decide +kernel
theorem dX9_readItem_39 : decode cX9_readItem 39 = .ok (.iload_n 2, 1) := by decide +kernel
theorem dX9_readItem_40 : decode cX9_readItem 40 = .ok (.iload_n 3, 1) := by decide +kernel
theorem dX9_readItem_41 : decode cX9_readItem 41 = .ok (.invokevirtual 57, 3) := by decide +kernel
theorem dX9_readItem_44 : decode cX9_readItem 44 = .ok (.ifCond .ne 5, 3) := by decide +kernel
theorem dX9_readItem_47 : decode cX9_readItem 47 = .ok (.iconst 0, 1) := by decide +kernel
theorem dX9_readItem_48 : decode cX9_readItem 48 = .ok (.ireturn, 1) := by decide +kernel
theorem dX9_readItem_49 : decode cX9_readItem 49 = .ok (.aload_n 0, 1) := by decide +kernel
theorem dX9_readItem_50 : decode cX9_readItem 50 = .ok (.getfield 34, 3) := by decide +kernel
theorem dX9_readItem_53 : decode cX9_readItem 53 = .ok (.iload_n 3, 1) := by decide +kernel
theorem dX9_readItem_54 : decode cX9_readItem 54 = .ok (.aload_n 0, 1) := by decide +kernel
theorem dX9_readItem_55 : decode cX9_readItem 55 = .ok (.getfield 28, 3) := by decide +kernel
theorem dX9_readItem_58 : decode cX9_readItem 58 = .ok (.iastore, 1) := by decide +kernel
