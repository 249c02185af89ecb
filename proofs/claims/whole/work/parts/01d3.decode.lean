theorem dX12_init_127 : decode cX12_init 127 = .ok (.newarray .int, 2) := by decide +kernel
theorem dX12_init_129 : decode cX12_init 129 = .ok (.putfield 56, 3) := by decide +kernel
theorem dX12_init_132 : decode cX12_init 132 = .ok (.aload_n 0, 1) := by decide +kernel
theorem dX12_init_133 : decode cX12_init 133 = .ok (.bipush 64, 2) := by decide +kernel
theorem dX12_init_135 : decode cX12_init 135 = .ok (.newarray .long, 2) := by decide +kernel
theorem dX12_init_137 : decode cX12_init 137 = .ok (.putfield 59, 3) := by decide +kernel
theorem dX12_init_140 : decode cX12_init 140 = .ok (.aload_n 0, 1) := by decide +kernel
theorem dX12_init_141 : decode cX12_init 141 = .ok (.bipush 64, 2) := by decide +kernel
theorem dX12_init_143 : decode cX12_init 143 = .ok (.newarray .long, 2) := by decide +kernel
theorem dX12_init_145 : decode cX12_init 145 = .ok (.putfield 63, 3) := by decide +kernel
theorem dX12_init_148 : decode cX12_init 148 = .ok (.aload_n 0, 1) := by decide +kernel
theorem dX12_init_149 : decode cX12_init 149 = .ok (.bipush 64, 2) := by decide +kernel
theorem dX12_init_151 : decode cX12_init 151 = .ok (.newarray .int, 2) := by decide +kernel
theorem dX12_init_153 : decode cX12_init 153 = .ok (.putfield 66, 3) := by decide +kernel
theorem dX12_init_156 : decode cX12_init 156 = .ok (.iconst 0, 1) := by decide +kernel
theorem dX12_init_157 : decode cX12_init 157 = .ok (.istore_n 1, 1) := by decide +kernel
theorem dX12_init_158 : decode cX12_init 158 = .ok (.iload_n 1, 1) := by decide +kernel
theorem dX12_init_159 : decode cX12_init 159 = .ok (.iconst 5, 1) := by decide +kernel
theorem dX12_init_160 : decode cX12_init 160 = .ok (.if_icmp .ge 19, 3) := by decide +kernel
theorem dX12_init_163 : decode cX12_init 163 = .ok (.aload_n 0, 1) := by decide +kernel
theorem dX12_init_164 : decode cX12_init 164 = .ok (.getfield 19, 3) := by decide +kernel
theorem dX12_init_167 : decode cX12_init 167 = .ok (.iconst 1, 1) := by decide +kernel
theorem dX12_init_168 : decode cX12_init 168 = .ok (.iload_n 1, 1) := by decide +kernel
theorem dX12_init_169 : decode cX12_init 169 = .ok (.iadd, 1) := by decide +kernel
theorem dX12_init_170 : decode cX12_init 170 = .ok (.bipush (-9), 2) := by decide +kernel
theorem dX12_init_172 : decode cX12_init 172 = .ok (.iastore, 1) := by decide +kernel
theorem dX12_init_173 : decode cX12_init 173 = .ok (.iinc 1 1, 3) := by decide +kernel
theorem dX12_init_176 : decode cX12_init 176 = .ok (.goto (-18), 3) := by decide +kernel
theorem dX12_init_179 : decode cX12_init 179 = .ok (.return_, 1) := by decide +kernel
theorem dX12_in_0 : decode cX12_in 0 = .ok (.iload_n 0, 1) := by decide +kernel
theorem dX12_in_1 : decode cX12_in 1 = .ok (.iload_n 1, 1) := by decide +kernel
theorem dX12_in_2 : decode cX12_in 2 = .ok (.if_icmp .lt 12, 3) := by decide +kernel
theorem dX12_in_5 : decode cX12_in 5 = .ok (.iload_n 0, 1) := by decide +kernel
theorem dX12_in_6 : decode cX12_in 6 = .ok (.iload_n 2, 1) := by decide +kernel
theorem dX12_in_7 : decode cX12_in 7 = .ok (.if_icmp .gt 7, 3) := by decide +kernel
theorem dX12_in_10 : decode cX12_in 10 = .ok (.iconst 1, 1) := by decide +kernel
theorem dX12_in_11 : decode cX12_in 11 = .ok (.goto 4, 3) := by decide +kernel
theorem dX12_in_14 : decode cX12_in 14 = .ok (.iconst 0, 1) := by decide +kernel
theorem dX12_in_15 : decode cX12_in 15 = .ok (.ireturn, 1) := by decide +kernel
theorem dX12_has_0 : decode cX12_has 0 = .ok (.iload_n 0, 1) := by decide +kernel
theorem dX12_has_1 : decode cX12_has 1 = .ok (.iload_n 1, 1) := by decide +kernel
theorem dX12_has_2 : decode cX12_has 2 = .ok (.ishr, 1) := by decide +kernel
theorem dX12_has_3 : decode cX12_has 3 = .ok (.iconst 1, 1) := by decide +kernel
theorem dX12_has_4 : decode cX12_has 4 = .ok (.iand, 1) := by decide +kernel
theorem dX12_has_5 : decode cX12_has 5 = .ok (.iconst 1, 1) := by decide +kernel
theorem dX12_has_6 : decode cX12_has 6 = .ok (.if_icmp .ne 7, 3) := by decide +kernel
theorem dX12_has_9 : decode cX12_has 9 = .ok (.iconst 1, 1) := by decide +kernel
theorem dX12_has_10 : decode cX12_has 10 = .ok (.goto 4, 3) := by decide +kernel
theorem dX12_has_13 : decode cX12_has 13 = .ok (.iconst 0, 1) := by decide +kernel
theorem dX12_has_14 : decode cX12_has 14 = .ok (.ireturn, 1) := by decide +kernel
theorem dX12_bits_0 : decode cX12_bits 0 = .ok (.iconst 0, 1) := by decide +kernel
theorem dX12_bits_1 : decode cX12_bits 1 = .ok (.istore_n 1, 1) := by decide +kernel
theorem dX12_bits_2 : decode cX12_bits 2 = .ok (.iload_n 0, 1) := by decide +kernel
theorem dX12_bits_3 : decode cX12_bits 3 = .ok (.istore_n 2, 1) := by decide +kernel
theorem dX12_bits_4 : decode cX12_bits 4 = .ok (.iload_n 2, 1) := by decide +kernel
theorem dX12_bits_5 : decode cX12_bits 5 = .ok (.ifCond .le 15, 3) := by decide +kernel
theorem dX12_bits_8 : decode cX12_bits 8 = .ok (.iinc 1 1, 3) := by decide +kernel
theorem dX12_bits_11 : decode cX12_bits 11 = .ok (.iload_n 2, 1) := by decide +kernel
theorem dX12_bits_12 : decode cX12_bits 12 = .ok (.iload_n 2, 1) := by decide +kernel
theorem dX12_bits_13 : decode cX12_bits 13 = .ok (.iconst 1, 1) := by decide +kernel
theorem dX12_bits_14 : decode cX12_bits 14 = .ok (.isub, 1) := by decide +kernel
theorem dX12_bits_15 : decode cX12_bits 15 = .ok (.iand, 1) := by decide +kernel
theorem dX12_bits_16 : decode cX12_bits 16 = .ok (.istore_n 2, 1) := by decide +kernel
theorem dX12_bits_17 : decode cX12_bits 17 = .ok (.goto (-13), 3) := by decide +kernel
theorem dX12_bits_20 : decode cX12_bits 20 = .ok (.iload_n 1, 1) := by decide +kernel
theorem dX12_bits_21 : decode cX12_bits 21 = .ok (.ireturn, 1) := by decide +kernel
theorem dX12_isBough_0 : decode cX12_isBough 0 = .ok (.iload_n 1, 1) := by decide +kernel
theorem dX12_isBough_1 : decode cX12_isBough 1 = .ok (.iconst 0, 1) := by decide +kernel
theorem dX12_isBough_2 : decode cX12_isBough 2 = .ok (.aload_n 0, 1) := by decide +kernel
theorem dX12_isBough_3 : decode cX12_isBough 3 = .ok (.getfield 69, 3) := by decide +kernel
theorem dX12_isBough_6 : decode cX12_isBough 6 = .ok (.iconst 1, 1) := by decide +kernel
theorem dX12_isBough_7 : decode cX12_isBough 7 = .ok (.isub, 1) := by decide +kernel
theorem dX12_isBough_8 : decode cX12_isBough 8 = .ok (.invokestatic 73, 3) := by decide +kernel
theorem dX12_isBough_11 : decode cX12_isBough 11 = .ok (.ireturn, 1) := by decide +kernel
theorem dX12_isPlank_0 : decode cX12_isPlank 0 = .ok (.iload_n 1, 1) := by decide +kernel
theorem dX12_isPlank_1 : decode cX12_isPlank 1 = .ok (.iconst 0, 1) := by decide +kernel
theorem dX12_isPlank_2 : decode cX12_isPlank 2 = .ok (.aload_n 0, 1) := by decide +kernel
theorem dX12_isPlank_3 : decode cX12_isPlank 3 = .ok (.getfield 77, 3) := by decide +kernel
theorem dX12_isPlank_6 : decode cX12_isPlank 6 = .ok (.iconst 1, 1) := by decide +kernel
theorem dX12_isPlank_7 : decode cX12_isPlank 7 = .ok (.isub, 1) := by decide +kernel
theorem dX12_isPlank_8 : decode cX12_isPlank 8 = .ok (.invokestatic 73, 3) := by decide +kernel
theorem dX12_isPlank_11 : decode cX12_isPlank 11 = .ok (.ireturn, 1) := by decide +kernel
theorem dX12_isChild_0 : decode cX12_isChild 0 = .ok (.iload_n 1, 1) := by decide +kernel
theorem dX12_isChild_1 : decode cX12_isChild 1 = .ok (.iconst 0, 1) := by decide +kernel
theorem dX12_isChild_2 : decode cX12_isChild 2 = .ok (.aload_n 0, 1) := by decide +kernel
theorem dX12_isChild_3 : decode cX12_isChild 3 = .ok (.getfield 80, 3) := by decide +kernel
theorem dX12_isChild_6 : decode cX12_isChild 6 = .ok (.iconst 1, 1) := by decide +kernel
theorem dX12_isChild_7 : decode cX12_isChild 7 = .ok (.isub, 1) := by decide +kernel
theorem dX12_isChild_8 : decode cX12_isChild 8 = .ok (.invokestatic 73, 3) := by decide +kernel
theorem dX12_isChild_11 : decode cX12_isChild 11 = .ok (.ireturn, 1) := by decide +kernel
theorem dX12_isForce_0 : decode cX12_isForce 0 = .ok (.iload_n 0, 1) := by decide +kernel
theorem dX12_isForce_1 : decode cX12_isForce 1 = .ok (.iconst 1, 1) := by decide +kernel
theorem dX12_isForce_2 : decode cX12_isForce 2 = .ok (.bipush 9, 2) := by decide +kernel
theorem dX12_isForce_4 : decode cX12_isForce 4 = .ok (.invokestatic 73, 3) := by decide +kernel
theorem dX12_isForce_7 : decode cX12_isForce 7 = .ok (.ireturn, 1) := by decide +kernel
theorem dX12_type_0 : decode cX12_type 0 = .ok (.iload_n 1, 1) := by decide +kernel
theorem dX12_type_1 : decode cX12_type 1 = .ok (.iconst 0, 1) := by decide +kernel
theorem dX12_type_2 : decode cX12_type 2 = .ok (.sipush 255, 3) := by decide +kernel
theorem dX12_type_5 : decode cX12_type 5 = .ok (.invokestatic 73, 3) := by decide +kernel
theorem dX12_type_8 : decode cX12_type 8 = .ok (.ifCond .ne 5, 3) := by decide +kernel
theorem dX12_type_11 : decode cX12_type 11 = .ok (.iconst (-1), 1) := by decide +kernel
theorem dX12_type_12 : decode cX12_type 12 = .ok (.ireturn, 1) := by decide +kernel
theorem dX12_type_13 : decode cX12_type 13 = .ok (.aload_n 0, 1) := by decide +kernel
theorem dX12_type_14 : decode cX12_type 14 = .ok (.getfield 83, 3) := by decide +kernel
theorem dX12_type_17 : decode cX12_type 17 = .ok (.sipush 200, 3) := by decide +kernel
theorem dX12_type_20 : decode cX12_type 20 = .ok (.if_icmp .ne 6, 3) := by decide +kernel
theorem dX12_type_23 : decode cX12_type 23 = .ok (.bipush (-3), 2) := by decide +kernel
theorem dX12_type_25 : decode cX12_type 25 = .ok (.ireturn, 1) := by decide +kernel
theorem dX12_type_26 : decode cX12_type 26 = .ok (.aload_n 0, 1) := by decide +kernel
theorem dX12_type_27 : decode cX12_type 27 = .ok (.getfield 35, 3) := by decide +kernel
theorem dX12_type_30 : decode cX12_type 30 = .ok (.aload_n 0, 1) := by decide +kernel
theorem dX12_type_31 : decode cX12_type 31 = .ok (.getfield 83, 3) := by decide +kernel
theorem dX12_type_34 : decode cX12_type 34 = .ok (.iload_n 1, 1) := by decide +kernel
theorem dX12_type_35 : decode cX12_type 35 = .ok (.iastore, 1) := by decide +kernel
theorem dX12_type_36 : decode cX12_type 36 = .ok (.aload_n 0, 1) := by decide +kernel
theorem dX12_type_37 : decode cX12_type 37 = .ok (.dup, 1) := by decide +kernel
theorem dX12_type_38 : decode cX12_type 38 = .ok (.getfield 83, 3) := by decide +kernel
theorem dX12_type_41 : decode cX12_type 41 = .ok (.iconst 1, 1) := by decide +kernel
theorem dX12_type_42 : decode cX12_type 42 = .ok (.iadd, 1) := by decide +kernel
theorem dX12_type_43 : decode cX12_type 43 = .ok (.putfield 83, 3) := by decide +kernel
theorem dX12_type_46 : decode cX12_type 46 = .ok (.aload_n 0, 1) := by decide +kernel
theorem dX12_type_47 : decode cX12_type 47 = .ok (.getfield 83, 3) := by decide +kernel
theorem dX12_type_50 : decode cX12_type 50 = .ok (.ireturn, 1) := by decide +kernel
theorem dX12_clear_0 : decode cX12_clear 0 = .ok (.aload_n 0, 1) := by decide +kernel
theorem dX12_clear_1 : decode cX12_clear 1 = .ok (.getfield 83, 3) := by decide +kernel
theorem dX12_clear_4 : decode cX12_clear 4 = .ok (.istore_n 1, 1) := by decide +kernel
theorem dX12_clear_5 : decode cX12_clear 5 = .ok (.aload_n 0, 1) := by decide +kernel
theorem dX12_clear_6 : decode cX12_clear 6 = .ok (.iconst 0, 1) := by decide +kernel
theorem dX12_clear_7 : decode cX12_clear 7 = .ok (.putfield 83, 3) := by decide +kernel
theorem dX12_clear_10 : decode cX12_clear 10 = .ok (.iload_n 1, 1) := by decide +kernel
theorem dX12_clear_11 : decode cX12_clear 11 = .ok (.ireturn, 1) := by decide +kernel
theorem dX12_letterAt_0 : decode cX12_letterAt 0 = .ok (.iload_n 1, 1) := by decide +kernel
theorem dX12_letterAt_1 : decode cX12_letterAt 1 = .ok (.aload_n 0, 1) := by decide +kernel
theorem dX12_letterAt_2 : decode cX12_letterAt 2 = .ok (.getfield 83, 3) := by decide +kernel
theorem dX12_letterAt_5 : decode cX12_letterAt 5 = .ok (.if_icmp .ge 12, 3) := by decide +kernel
theorem dX12_letterAt_8 : decode cX12_letterAt 8 = .ok (.aload_n 0, 1) := by decide +kernel
theorem dX12_letterAt_9 : decode cX12_letterAt 9 = .ok (.getfield 35, 3) := by decide +kernel
theorem dX12_letterAt_12 : decode cX12_letterAt 12 = .ok (.iload_n 1, 1) := by decide +kernel
theorem dX12_letterAt_13 : decode cX12_letterAt 13 = .ok (.iaload, 1) := by decide +kernel
theorem dX12_letterAt_14 : decode cX12_letterAt 14 = .ok (.goto 4, 3) := by decide +kernel
theorem dX12_letterAt_17 : decode cX12_letterAt 17 = .ok (.iconst (-1), 1) := by decide +kernel
theorem dX12_letterAt_18 : decode cX12_letterAt 18 = .ok (.ireturn, 1) := by decide +kernel
theorem dX12_next_0 : decode cX12_next 0 = .ok (.aload_n 0, 1) := by decide +kernel
theorem dX12_next_1 : decode cX12_next 1 = .ok (.aload_n 0, 1) := by decide +kernel
theorem dX12_next_2 : decode cX12_next 2 = .ok (.getfield 86, 3) := by decide +kernel
theorem dX12_next_5 : decode cX12_next 5 = .ok (.invokevirtual 89, 3) := by decide +kernel
theorem dX12_next_8 : decode cX12_next 8 = .ok (.bipush 32, 2) := by decide +kernel
theorem dX12_next_10 : decode cX12_next 10 = .ok (.if_icmp .ne 16, 3) := by decide +kernel
theorem dX12_next_13 : decode cX12_next 13 = .ok (.aload_n 0, 1) := by decide +kernel
theorem dX12_next_14 : decode cX12_next 14 = .ok (.dup, 1) := by decide +kernel
theorem dX12_next_15 : decode cX12_next 15 = .ok (.getfield 86, 3) := by decide +kernel
theorem dX12_next_18 : decode cX12_next 18 = .ok (.iconst 1, 1) := by decide +kernel
theorem dX12_next_19 : decode cX12_next 19 = .ok (.iadd, 1) := by decide +kernel
theorem dX12_next_20 : decode cX12_next 20 = .ok (.putfield 86, 3) := by decide +kernel
theorem dX12_next_23 : decode cX12_next 23 = .ok (.goto (-23), 3) := by decide +kernel
theorem dX12_next_26 : decode cX12_next 26 = .ok (.aload_n 0, 1) := by decide +kernel
theorem dX12_next_27 : decode cX12_next 27 = .ok (.aload_n 0, 1) := by decide +kernel
theorem dX12_next_28 : decode cX12_next 28 = .ok (.getfield 86, 3) := by decide +kernel
theorem dX12_next_31 : decode cX12_next 31 = .ok (.putfield 93, 3) := by decide +kernel
theorem dX12_next_34 : decode cX12_next 34 = .ok (.aload_n 0, 1) := by decide +kernel
theorem dX12_next_35 : decode cX12_next 35 = .ok (.aload_n 0, 1) := by decide +kernel
theorem dX12_next_36 : decode cX12_next 36 = .ok (.getfield 86, 3) := by decide +kernel
theorem dX12_next_39 : decode cX12_next 39 = .ok (.invokevirtual 89, 3) := by decide +kernel
theorem dX12_next_42 : decode cX12_next 42 = .ok (.istore_n 1, 1) := by decide +kernel
theorem dX12_next_43 : decode cX12_next 43 = .ok (.iload_n 1, 1) := by decide +kernel
theorem dX12_next_44 : decode cX12_next 44 = .ok (.ifCond .ge 9, 3) := by decide +kernel
theorem dX12_next_47 : decode cX12_next 47 = .ok (.aload_n 0, 1) := by decide +kernel
theorem dX12_next_48 : decode cX12_next 48 = .ok (.iconst 0, 1) := by decide +kernel
theorem dX12_next_49 : decode cX12_next 49 = .ok (.putfield 96, 3) := by decide +kernel
theorem dX12_next_52 : decode cX12_next 52 = .ok (.return_, 1) := by decide +kernel
theorem dX12_next_53 : decode cX12_next 53 = .ok (.aload_n 0, 1) := by decide +kernel
theorem dX12_next_54 : decode cX12_next 54 = .ok (.dup, 1) := by decide +kernel
theorem dX12_next_55 : decode cX12_next 55 = .ok (.getfield 86, 3) := by decide +kernel
theorem dX12_next_58 : decode cX12_next 58 = .ok (.iconst 1, 1) := by decide +kernel
theorem dX12_next_59 : decode cX12_next 59 = .ok (.iadd, 1) := by decide +kernel
theorem dX12_next_60 : decode cX12_next 60 = .ok (.putfield 86, 3) := by decide +kernel
theorem dX12_next_63 : decode cX12_next 63 = .ok (.aload_n 0, 1) := by decide +kernel
theorem dX12_next_64 : decode cX12_next 64 = .ok (.iload_n 1, 1) := by decide +kernel
theorem dX12_next_65 : decode cX12_next 65 = .ok (.putfield 99, 3) := by decide +kernel
theorem dX12_next_68 : decode cX12_next 68 = .ok (.aload_n 0, 1) := by decide +kernel
theorem dX12_next_69 : decode cX12_next 69 = .ok (.iload_n 1, 1) := by decide +kernel
theorem dX12_next_70 : decode cX12_next 70 = .ok (.bipush 98, 2) := by decide +kernel
theorem dX12_next_72 : decode cX12_next 72 = .ok (.if_icmp .eq 15, 3) := by decide +kernel
theorem dX12_next_75 : decode cX12_next 75 = .ok (.iload_n 1, 1) := by decide +kernel
theorem dX12_next_76 : decode cX12_next 76 = .ok (.bipush 112, 2) := by decide +kernel
theorem dX12_next_78 : decode cX12_next 78 = .ok (.if_icmp .eq 9, 3) := by decide +kernel
theorem dX12_next_81 : decode cX12_next 81 = .ok (.iload_n 1, 1) := by decide +kernel
theorem dX12_next_82 : decode cX12_next 82 = .ok (.bipush 99, 2) := by decide +kernel
theorem dX12_next_84 : decode cX12_next 84 = .ok (.if_icmp .ne 7, 3) := by decide +kernel
theorem dX12_next_87 : decode cX12_next 87 = .ok (.iconst 1, 1) := by decide +kernel
theorem dX12_next_88 : decode cX12_next 88 = .ok (.goto 14, 3) := by decide +kernel
theorem dX12_next_91 : decode cX12_next 91 = .ok (.iload_n 1, 1) := by decide +kernel
theorem dX12_next_92 : decode cX12_next 92 = .ok (.bipush 59, 2) := by decide +kernel
theorem dX12_next_94 : decode cX12_next 94 = .ok (.if_icmp .ne 7, 3) := by decide +kernel
theorem dX12_next_97 : decode cX12_next 97 = .ok (.iconst 3, 1) := by decide +kernel
theorem dX12_next_98 : decode cX12_next 98 = .ok (.goto 4, 3) := by decide +kernel
theorem dX12_next_101 : decode cX12_next 101 = .ok (.iconst 4, 1) := by decide +kernel
theorem dX12_next_102 : decode cX12_next 102 = .ok (.putfield 96, 3) := by decide +kernel
theorem dX12_next_105 : decode cX12_next 105 = .ok (.iload_n 1, 1) := by decide +kernel
theorem dX12_next_106 : decode cX12_next 106 = .ok (.bipush 48, 2) := by decide +kernel
theorem dX12_next_108 : decode cX12_next 108 = .ok (.bipush 57, 2) := by decide +kernel
theorem dX12_next_110 : decode cX12_next 110 = .ok (.invokestatic 73, 3) := by decide +kernel
theorem dX12_next_113 : decode cX12_next 113 = .ok (.ifCond .eq 126, 3) := by decide +kernel
theorem dX12_next_116 : decode cX12_next 116 = .ok (.aload_n 0, 1) := by decide +kernel
theorem dX12_next_117 : decode cX12_next 117 = .ok (.iload_n 1, 1) := by decide +kernel
theorem dX12_next_118 : decode cX12_next 118 = .ok (.bipush 48, 2) := by decide +kernel
theorem dX12_next_120 : decode cX12_next 120 = .ok (.isub, 1) := by decide +kernel
theorem dX12_next_121 : decode cX12_next 121 = .ok (.putfield 99, 3) := by decide +kernel
theorem dX12_next_124 : decode cX12_next 124 = .ok (.aload_n 0, 1) := by decide +kernel
theorem dX12_next_125 : decode cX12_next 125 = .ok (.aload_n 0, 1) := by decide +kernel
theorem dX12_next_126 : decode cX12_next 126 = .ok (.getfield 86, 3) := by decide +kernel
theorem dX12_next_129 : decode cX12_next 129 = .ok (.invokevirtual 89, 3) := by decide +kernel
theorem dX12_next_132 : decode cX12_next 132 = .ok (.bipush 48, 2) := by decide +kernel
theorem dX12_next_134 : decode cX12_next 134 = .ok (.bipush 57, 2) := by decide +kernel
theorem dX12_next_136 : decode cX12_next 136 = .ok (.invokestatic 73, 3) := by decide +kernel
theorem dX12_next_139 : decode cX12_next 139 = .ok (.ifCond .eq 59, 3) := by decide +kernel
theorem dX12_next_142 : decode cX12_next 142 = .ok (.aload_n 0, 1) := by decide +kernel
theorem dX12_next_143 : decode cX12_next 143 = .ok (.aload_n 0, 1) := by decide +kernel
theorem dX12_next_144 : decode cX12_next 144 = .ok (.getfield 86, 3) := by decide +kernel
theorem dX12_next_147 : decode cX12_next 147 = .ok (.aload_n 0, 1) := by decide +kernel
theorem dX12_next_148 : decode cX12_next 148 = .ok (.getfield 93, 3) := by decide +kernel
theorem dX12_next_151 : decode cX12_next 151 = .ok (.isub, 1) := by decide +kernel
theorem dX12_next_152 : decode cX12_next 152 = .ok (.iconst 2, 1) := by decide +kernel
theorem dX12_next_153 : decode cX12_next 153 = .ok (.if_icmp .ge 25, 3) := by decide +kernel
theorem dX12_next_156 : decode cX12_next 156 = .ok (.bipush 10, 2) := by decide +kernel
theorem dX12_next_158 : decode cX12_next 158 = .ok (.aload_n 0, 1) := by decide +kernel
theorem dX12_next_159 : decode cX12_next 159 = .ok (.getfield 99, 3) := by decide +kernel
theorem dX12_next_162 : decode cX12_next 162 = .ok (.imul, 1) := by decide +kernel
theorem dX12_next_163 : decode cX12_next 163 = .ok (.aload_n 0, 1) := by decide +kernel
theorem dX12_next_164 : decode cX12_next 164 = .ok (.aload_n 0, 1) := by decide +kernel
theorem dX12_next_165 : decode cX12_next 165 = .ok (.getfield 86, 3) := by decide +kernel
theorem dX12_next_168 : decode cX12_next 168 = .ok (.invokevirtual 89, 3) := by decide +kernel
theorem dX12_next_171 : decode cX12_next 171 = .ok (.iadd, 1) := by decide +kernel
theorem dX12_next_172 : decode cX12_next 172 = .ok (.bipush 48, 2) := by decide +kernel
theorem dX12_next_174 : decode cX12_next 174 = .ok (.isub, 1) := by decide +kernel
theorem dX12_next_175 : decode cX12_next 175 = .ok (.goto 7, 3) := by decide +kernel
theorem dX12_next_178 : decode cX12_next 178 = .ok (.aload_n 0, 1) := by decide +kernel
theorem dX12_next_179 : decode cX12_next 179 = .ok (.getfield 99, 3) := by decide +kernel
theorem dX12_next_182 : decode cX12_next 182 = .ok (.putfield 99, 3) := by decide +kernel
theorem dX12_next_185 : decode cX12_next 185 = .ok (.aload_n 0, 1) := by decide +kernel
theorem dX12_next_186 : decode cX12_next 186 = .ok (.dup, 1) := by decide +kernel
theorem dX12_next_187 : decode cX12_next 187 = .ok (.getfield 86, 3) := by decide +kernel
theorem dX12_next_190 : decode cX12_next 190 = .ok (.iconst 1, 1) := by decide +kernel
theorem dX12_next_191 : decode cX12_next 191 = .ok (.iadd, 1) := by decide +kernel
theorem dX12_next_192 : decode cX12_next 192 = .ok (.putfield 86, 3) := by decide +kernel
theorem dX12_next_195 : decode cX12_next 195 = .ok (.goto (-71), 3) := by decide +kernel
theorem dX12_next_198 : decode cX12_next 198 = .ok (.aload_n 0, 1) := by decide +kernel
theorem dX12_next_199 : decode cX12_next 199 = .ok (.aload_n 0, 1) := by decide +kernel
theorem dX12_next_200 : decode cX12_next 200 = .ok (.getfield 86, 3) := by decide +kernel
theorem dX12_next_203 : decode cX12_next 203 = .ok (.aload_n 0, 1) := by decide +kernel
theorem dX12_next_204 : decode cX12_next 204 = .ok (.getfield 93, 3) := by decide +kernel
theorem dX12_next_207 : decode cX12_next 207 = .ok (.isub, 1) := by decide +kernel
theorem dX12_next_208 : decode cX12_next 208 = .ok (.iconst 3, 1) := by decide +kernel
theorem dX12_next_209 : decode cX12_next 209 = .ok (.if_icmp .ge 26, 3) := by decide +kernel
theorem dX12_next_212 : decode cX12_next 212 = .ok (.iload_n 1, 1) := by decide +kernel
theorem dX12_next_213 : decode cX12_next 213 = .ok (.bipush 48, 2) := by decide +kernel
theorem dX12_next_215 : decode cX12_next 215 = .ok (.if_icmp .ne 16, 3) := by decide +kernel
theorem dX12_next_218 : decode cX12_next 218 = .ok (.aload_n 0, 1) := by decide +kernel
theorem dX12_next_219 : decode cX12_next 219 = .ok (.getfield 86, 3) := by decide +kernel
theorem dX12_next_222 : decode cX12_next 222 = .ok (.aload_n 0, 1) := by decide +kernel
theorem dX12_next_223 : decode cX12_next 223 = .ok (.getfield 93, 3) := by decide +kernel
theorem dX12_next_226 : decode cX12_next 226 = .ok (.isub, 1) := by decide +kernel
theorem dX12_next_227 : decode cX12_next 227 = .ok (.iconst 1, 1) := by decide +kernel
theorem dX12_next_228 : decode cX12_next 228 = .ok (.if_icmp .ne 7, 3) := by decide +kernel
theorem dX12_next_231 : decode cX12_next 231 = .ok (.iconst 2, 1) := by decide +kernel
theorem dX12_next_232 : decode cX12_next 232 = .ok (.goto 4, 3) := by decide +kernel
theorem dX12_next_235 : decode cX12_next 235 = .ok (.iconst 4, 1) := by decide +kernel
theorem dX12_next_236 : decode cX12_next 236 = .ok (.putfield 96, 3) := by decide +kernel
theorem dX12_next_239 : decode cX12_next 239 = .ok (.return_, 1) := by decide +kernel
theorem dX12_must_0 : decode cX12_must 0 = .ok (.aload_n 0, 1) := by decide +kernel
theorem dX12_must_1 : decode cX12_must 1 = .ok (.aload_n 0, 1) := by decide +kernel
theorem dX12_must_2 : decode cX12_must 2 = .ok (.getfield 102, 3) := by decide +kernel
theorem dX12_must_5 : decode cX12_must 5 = .ok (.ifCond .ne 7, 3) := by decide +kernel
theorem dX12_must_8 : decode cX12_must 8 = .ok (.iload_n 1, 1) := by decide +kernel
theorem dX12_must_9 : decode cX12_must 9 = .ok (.ifCond .ne 7, 3) := by decide +kernel
theorem dX12_must_12 : decode cX12_must 12 = .ok (.iconst 1, 1) := by decide +kernel
theorem dX12_must_13 : decode cX12_must 13 = .ok (.goto 4, 3) := by decide +kernel
theorem dX12_must_16 : decode cX12_must 16 = .ok (.iconst 0, 1) := by decide +kernel
theorem dX12_must_17 : decode cX12_must 17 = .ok (.putfield 102, 3) := by decide +kernel
theorem dX12_must_20 : decode cX12_must 20 = .ok (.aload_n 0, 1) := by decide +kernel
theorem dX12_must_21 : decode cX12_must 21 = .ok (.getfield 102, 3) := by decide +kernel
theorem dX12_must_24 : decode cX12_must 24 = .ok (.ifCond .ne 7, 3) := by decide +kernel
theorem dX12_must_27 : decode cX12_must 27 = .ok (.aload_n 0, 1) := by decide +kernel
theorem dX12_must_28 : decode cX12_must 28 = .ok (.invokevirtual 106, 3) := by decide +kernel
theorem dX12_must_31 : decode cX12_must 31 = .ok (.return_, 1) := by decide +kernel
theorem dX12_readInto_0 : decode cX12_readInto 0 = .ok (.aload_n 0, 1) := by decide +kernel
theorem dX12_readInto_1 : decode cX12_readInto 1 = .ok (.getfield 99, 3) := by decide +kernel
theorem dX12_readInto_4 : decode cX12_readInto 4 = .ok (.istore 5, 2) := by decide +kernel
theorem dX12_readInto_6 : decode cX12_readInto 6 = .ok (.aload_n 0, 1) := by decide +kernel
theorem dX12_readInto_7 : decode cX12_readInto 7 = .ok (.aload_n 0, 1) := by decide +kernel
theorem dX12_readInto_8 : decode cX12_readInto 8 = .ok (.getfield 96, 3) := by decide +kernel
theorem dX12_readInto_11 : decode cX12_readInto 11 = .ok (.iconst 2, 1) := by decide +kernel
theorem dX12_readInto_12 : decode cX12_readInto 12 = .ok (.if_icmp .ne 18, 3) := by decide +kernel
theorem dX12_readInto_15 : decode cX12_readInto 15 = .ok (.iload 5, 2) := by decide +kernel
theorem dX12_readInto_17 : decode cX12_readInto 17 = .ok (.iload_n 3, 1) := by decide +kernel
theorem dX12_readInto_18 : decode cX12_readInto 18 = .ok (.iload 4, 2) := by decide +kernel
theorem dX12_readInto_20 : decode cX12_readInto 20 = .ok (.invokestatic 73, 3) := by decide +kernel
theorem dX12_readInto_23 : decode cX12_readInto 23 = .ok (.ifCond .eq 7, 3) := by decide +kernel
theorem dX12_readInto_26 : decode cX12_readInto 26 = .ok (.iconst 1, 1) := by decide +kernel
theorem dX12_readInto_27 : decode cX12_readInto 27 = .ok (.goto 4, 3) := by decide +kernel
theorem dX12_readInto_30 : decode cX12_readInto 30 = .ok (.iconst 0, 1) := by decide +kernel
theorem dX12_readInto_31 : decode cX12_readInto 31 = .ok (.invokevirtual 109, 3) := by decide +kernel
theorem dX12_readInto_34 : decode cX12_readInto 34 = .ok (.aload_n 0, 1) := by decide +kernel
theorem dX12_readInto_35 : decode cX12_readInto 35 = .ok (.getfield 102, 3) := by decide +kernel
theorem dX12_readInto_38 : decode cX12_readInto 38 = .ok (.ifCond .ne 8, 3) := by decide +kernel
theorem dX12_readInto_41 : decode cX12_readInto 41 = .ok (.aload_n 1, 1) := by decide +kernel
theorem dX12_readInto_42 : decode cX12_readInto 42 = .ok (.iload_n 2, 1) := by decide +kernel
theorem dX12_readInto_43 : decode cX12_readInto 43 = .ok (.iload 5, 2) := by decide +kernel
theorem dX12_readInto_45 : decode cX12_readInto 45 = .ok (.iastore, 1) := by decide +kernel
theorem dX12_readInto_46 : decode cX12_readInto 46 = .ok (.iload 5, 2) := by decide +kernel
theorem dX12_readInto_48 : decode cX12_readInto 48 = .ok (.ireturn, 1) := by decide +kernel
theorem dX12_readBough_0 : decode cX12_readBough 0 = .ok (.aload_n 0, 1) := by decide +kernel
theorem dX12_readBough_1 : decode cX12_readBough 1 = .ok (.aload_n 0, 1) := by decide +kernel
theorem dX12_readBough_2 : decode cX12_readBough 2 = .ok (.getfield 113, 3) := by decide +kernel
theorem dX12_readBough_5 : decode cX12_readBough 5 = .ok (.bipush 8, 2) := by decide +kernel
theorem dX12_readBough_7 : decode cX12_readBough 7 = .ok (.if_icmp .ge 7, 3) := by decide +kernel
theorem dX12_readBough_10 : decode cX12_readBough 10 = .ok (.iconst 1, 1) := by decide +kernel
theorem dX12_readBough_11 : decode cX12_readBough 11 = .ok (.goto 4, 3) := by decide +kernel
theorem dX12_readBough_14 : decode cX12_readBough 14 = .ok (.iconst 0, 1) := by decide +kernel
theorem dX12_readBough_15 : decode cX12_readBough 15 = .ok (.invokevirtual 109, 3) := by decide +kernel
theorem dX12_readBough_18 : decode cX12_readBough 18 = .ok (.aload_n 0, 1) := by decide +kernel
theorem dX12_readBough_19 : decode cX12_readBough 19 = .ok (.getfield 102, 3) := by decide +kernel
theorem dX12_readBough_22 : decode cX12_readBough 22 = .ok (.ifCond .eq 4, 3) := by decide +kernel
theorem dX12_readBough_25 : decode cX12_readBough 25 = .ok (.return_, 1) := by decide +kernel
theorem dX12_readBough_26 : decode cX12_readBough 26 = .ok (.iconst 3, 1) := by decide +kernel
theorem dX12_readBough_27 : decode cX12_readBough 27 = .ok (.aload_n 0, 1) := by decide +kernel
theorem dX12_readBough_28 : decode cX12_readBough 28 = .ok (.getfield 113, 3) := by decide +kernel
theorem dX12_readBough_31 : decode cX12_readBough 31 = .ok (.imul, 1) := by decide +kernel
theorem dX12_readBough_32 : decode cX12_readBough 32 = .ok (.istore_n 1, 1) := by decide +kernel
theorem dX12_readBough_33 : decode cX12_readBough 33 = .ok (.aload_n 0, 1) := by decide +kernel
theorem dX12_readBough_34 : decode cX12_readBough 34 = .ok (.aload_n 0, 1) := by decide +kernel
theorem dX12_readBough_35 : decode cX12_readBough 35 = .ok (.getfield 38, 3) := by decide +kernel
theorem dX12_readBough_38 : decode cX12_readBough 38 = .ok (.iload_n 1, 1) := by decide +kernel
theorem dX12_readBough_39 : decode cX12_readBough 39 = .ok (.iconst 0, 1) := by decide +kernel
theorem dX12_readBough_40 : decode cX12_readBough 40 = .ok (.bipush 20, 2) := by decide +kernel
theorem dX12_readBough_42 : decode cX12_readBough 42 = .ok (.invokevirtual 116, 3) := by decide +kernel
theorem dX12_readBough_45 : decode cX12_readBough 45 = .ok (.pop, 1) := by decide +kernel
theorem dX12_readBough_46 : decode cX12_readBough 46 = .ok (.aload_n 0, 1) := by decide +kernel
theorem dX12_readBough_47 : decode cX12_readBough 47 = .ok (.aload_n 0, 1) := by decide +kernel
theorem dX12_readBough_48 : decode cX12_readBough 48 = .ok (.getfield 38, 3) := by decide +kernel
theorem dX12_readBough_51 : decode cX12_readBough 51 = .ok (.iload_n 1, 1) := by decide +kernel
theorem dX12_readBough_52 : decode cX12_readBough 52 = .ok (.iconst 1, 1) := by decide +kernel
theorem dX12_readBough_53 : decode cX12_readBough 53 = .ok (.iadd, 1) := by decide +kernel
theorem dX12_readBough_54 : decode cX12_readBough 54 = .ok (.iconst 1, 1) := by decide +kernel
theorem dX12_readBough_55 : decode cX12_readBough 55 = .ok (.bipush 60, 2) := by decide +kernel
theorem dX12_readBough_57 : decode cX12_readBough 57 = .ok (.invokevirtual 116, 3) := by decide +kernel
theorem dX12_readBough_60 : decode cX12_readBough 60 = .ok (.pop, 1) := by decide +kernel
theorem dX12_readBough_61 : decode cX12_readBough 61 = .ok (.aload_n 0, 1) := by decide +kernel
theorem dX12_readBough_62 : decode cX12_readBough 62 = .ok (.aload_n 0, 1) := by decide +kernel
theorem dX12_readBough_63 : decode cX12_readBough 63 = .ok (.getfield 38, 3) := by decide +kernel
theorem dX12_readBough_66 : decode cX12_readBough 66 = .ok (.iload_n 1, 1) := by decide +kernel
theorem dX12_readBough_67 : decode cX12_readBough 67 = .ok (.iconst 2, 1) := by decide +kernel
theorem dX12_readBough_68 : decode cX12_readBough 68 = .ok (.iadd, 1) := by decide +kernel
theorem dX12_readBough_69 : decode cX12_readBough 69 = .ok (.iconst 0, 1) := by decide +kernel
theorem dX12_readBough_70 : decode cX12_readBough 70 = .ok (.iconst 3, 1) := by decide +kernel
theorem dX12_readBough_71 : decode cX12_readBough 71 = .ok (.invokevirtual 116, 3) := by decide +kernel
theorem dX12_readBough_74 : decode cX12_readBough 74 = .ok (.pop, 1) := by decide +kernel
theorem dX12_readBough_75 : decode cX12_readBough 75 = .ok (.aload_n 0, 1) := by decide +kernel
theorem dX12_readBough_76 : decode cX12_readBough 76 = .ok (.aload_n 0, 1) := by decide +kernel
theorem dX12_readBough_77 : decode cX12_readBough 77 = .ok (.getfield 96, 3) := by decide +kernel
theorem dX12_readBough_80 : decode cX12_readBough 80 = .ok (.iconst 3, 1) := by decide +kernel
theorem dX12_readBough_81 : decode cX12_readBough 81 = .ok (.if_icmp .ne 7, 3) := by decide +kernel
theorem dX12_readBough_84 : decode cX12_readBough 84 = .ok (.iconst 1, 1) := by decide +kernel
theorem dX12_readBough_85 : decode cX12_readBough 85 = .ok (.goto 4, 3) := by decide +kernel
theorem dX12_readBough_88 : decode cX12_readBough 88 = .ok (.iconst 0, 1) := by decide +kernel
theorem dX12_readBough_89 : decode cX12_readBough 89 = .ok (.invokevirtual 109, 3) := by decide +kernel
theorem dX12_readBough_92 : decode cX12_readBough 92 = .ok (.aload_n 0, 1) := by decide +kernel
theorem dX12_readBough_93 : decode cX12_readBough 93 = .ok (.dup, 1) := by decide +kernel
theorem dX12_readBough_94 : decode cX12_readBough 94 = .ok (.getfield 113, 3) := by decide +kernel
theorem dX12_readBough_97 : decode cX12_readBough 97 = .ok (.iconst 1, 1) := by decide +kernel
theorem dX12_readBough_98 : decode cX12_readBough 98 = .ok (.iadd, 1) := by decide +kernel
theorem dX12_readBough_99 : decode cX12_readBough 99 = .ok (.putfield 113, 3) := by decide +kernel
theorem dX12_readBough_102 : decode cX12_readBough 102 = .ok (.return_, 1) := by decide +kernel
theorem dX12_mayJoin_0 : decode cX12_mayJoin 0 = .ok (.aload_n 0, 1) := by decide +kernel
theorem dX12_mayJoin_1 : decode cX12_mayJoin 1 = .ok (.getfield 38, 3) := by decide +kernel
theorem dX12_mayJoin_4 : decode cX12_mayJoin 4 = .ok (.iconst 3, 1) := by decide +kernel
theorem dX12_mayJoin_5 : decode cX12_mayJoin 5 = .ok (.iload_n 1, 1) := by decide +kernel
theorem dX12_mayJoin_6 : decode cX12_mayJoin 6 = .ok (.imul, 1) := by decide +kernel
theorem dX12_mayJoin_7 : decode cX12_mayJoin 7 = .ok (.iaload, 1) := by decide +kernel
theorem dX12_mayJoin_8 : decode cX12_mayJoin 8 = .ok (.aload_n 0, 1) := by decide +kernel
theorem dX12_mayJoin_9 : decode cX12_mayJoin 9 = .ok (.getfield 38, 3) := by decide +kernel
theorem dX12_mayJoin_12 : decode cX12_mayJoin 12 = .ok (.iconst 3, 1) := by decide +kernel
theorem dX12_mayJoin_13 : decode cX12_mayJoin 13 = .ok (.iload_n 2, 1) := by decide +kernel
theorem dX12_mayJoin_14 : decode cX12_mayJoin 14 = .ok (.imul, 1) := by decide +kernel
theorem dX12_mayJoin_15 : decode cX12_mayJoin 15 = .ok (.iaload, 1) := by decide +kernel
theorem dX12_mayJoin_16 : decode cX12_mayJoin 16 = .ok (.isub, 1) := by decide +kernel
theorem dX12_mayJoin_17 : decode cX12_mayJoin 17 = .ok (.istore_n 3, 1) := by decide +kernel
theorem dX12_mayJoin_18 : decode cX12_mayJoin 18 = .ok (.iload_n 1, 1) := by decide +kernel
theorem dX12_mayJoin_19 : decode cX12_mayJoin 19 = .ok (.iload_n 2, 1) := by decide +kernel
theorem dX12_mayJoin_20 : decode cX12_mayJoin 20 = .ok (.if_icmp .eq 17, 3) := by decide +kernel
theorem dX12_mayJoin_23 : decode cX12_mayJoin 23 = .ok (.iload_n 3, 1) := by decide +kernel
theorem dX12_mayJoin_24 : decode cX12_mayJoin 24 = .ok (.bipush (-2), 2) := by decide +kernel
theorem dX12_mayJoin_26 : decode cX12_mayJoin 26 = .ok (.iconst 2, 1) := by decide +kernel
theorem dX12_mayJoin_27 : decode cX12_mayJoin 27 = .ok (.invokestatic 73, 3) := by decide +kernel
theorem dX12_mayJoin_30 : decode cX12_mayJoin 30 = .ok (.ifCond .eq 7, 3) := by decide +kernel
theorem dX12_mayJoin_33 : decode cX12_mayJoin 33 = .ok (.iconst 1, 1) := by decide +kernel
theorem dX12_mayJoin_34 : decode cX12_mayJoin 34 = .ok (.goto 4, 3) := by decide +kernel
theorem dX12_mayJoin_37 : decode cX12_mayJoin 37 = .ok (.iconst 0, 1) := by decide +kernel
theorem dX12_mayJoin_38 : decode cX12_mayJoin 38 = .ok (.ireturn, 1) := by decide +kernel
theorem dX12_readPlank_0 : decode cX12_readPlank 0 = .ok (.aload_n 0, 1) := by decide +kernel
theorem dX12_readPlank_1 : decode cX12_readPlank 1 = .ok (.aload_n 0, 1) := by decide +kernel
theorem dX12_readPlank_2 : decode cX12_readPlank 2 = .ok (.getfield 120, 3) := by decide +kernel
theorem dX12_readPlank_5 : decode cX12_readPlank 5 = .ok (.bipush 6, 2) := by decide +kernel
theorem dX12_readPlank_7 : decode cX12_readPlank 7 = .ok (.if_icmp .ge 7, 3) := by decide +kernel
theorem dX12_readPlank_10 : decode cX12_readPlank 10 = .ok (.iconst 1, 1) := by decide +kernel
theorem dX12_readPlank_11 : decode cX12_readPlank 11 = .ok (.goto 4, 3) := by decide +kernel
theorem dX12_readPlank_14 : decode cX12_readPlank 14 = .ok (.iconst 0, 1) := by decide +kernel
theorem dX12_readPlank_15 : decode cX12_readPlank 15 = .ok (.invokevirtual 109, 3) := by decide +kernel
theorem dX12_readPlank_18 : decode cX12_readPlank 18 = .ok (.aload_n 0, 1) := by decide +kernel
theorem dX12_readPlank_19 : decode cX12_readPlank 19 = .ok (.getfield 102, 3) := by decide +kernel
theorem dX12_readPlank_22 : decode cX12_readPlank 22 = .ok (.ifCond .eq 4, 3) := by decide +kernel
theorem dX12_readPlank_25 : decode cX12_readPlank 25 = .ok (.return_, 1) := by decide +kernel
theorem dX12_readPlank_26 : decode cX12_readPlank 26 = .ok (.iconst 5, 1) := by decide +kernel
theorem dX12_readPlank_27 : decode cX12_readPlank 27 = .ok (.aload_n 0, 1) := by decide +kernel
theorem dX12_readPlank_28 : decode cX12_readPlank 28 = .ok (.getfield 120, 3) := by decide +kernel
theorem dX12_readPlank_31 : decode cX12_readPlank 31 = .ok (.imul, 1) := by decide +kernel
theorem dX12_readPlank_32 : decode cX12_readPlank 32 = .ok (.istore_n 1, 1) := by decide +kernel
theorem dX12_readPlank_33 : decode cX12_readPlank 33 = .ok (.aload_n 0, 1) := by decide +kernel
theorem dX12_readPlank_34 : decode cX12_readPlank 34 = .ok (.aload_n 0, 1) := by decide +kernel
theorem dX12_readPlank_35 : decode cX12_readPlank 35 = .ok (.getfield 41, 3) := by decide +kernel
theorem dX12_readPlank_38 : decode cX12_readPlank 38 = .ok (.iload_n 1, 1) := by decide +kernel
theorem dX12_readPlank_39 : decode cX12_readPlank 39 = .ok (.iconst 0, 1) := by decide +kernel
theorem dX12_readPlank_40 : decode cX12_readPlank 40 = .ok (.aload_n 0, 1) := by decide +kernel
theorem dX12_readPlank_41 : decode cX12_readPlank 41 = .ok (.getfield 113, 3) := by decide +kernel
theorem dX12_readPlank_44 : decode cX12_readPlank 44 = .ok (.iconst 1, 1) := by decide +kernel
theorem dX12_readPlank_45 : decode cX12_readPlank 45 = .ok (.isub, 1) := by decide +kernel
theorem dX12_readPlank_46 : decode cX12_readPlank 46 = .ok (.invokevirtual 116, 3) := by decide +kernel
theorem dX12_readPlank_49 : decode cX12_readPlank 49 = .ok (.istore_n 2, 1) := by decide +kernel
theorem dX12_readPlank_50 : decode cX12_readPlank 50 = .ok (.aload_n 0, 1) := by decide +kernel
theorem dX12_readPlank_51 : decode cX12_readPlank 51 = .ok (.getfield 99, 3) := by decide +kernel
theorem dX12_readPlank_54 : decode cX12_readPlank 54 = .ok (.istore_n 3, 1) := by decide +kernel
theorem dX12_readPlank_55 : decode cX12_readPlank 55 = .ok (.aload_n 0, 1) := by decide +kernel
theorem dX12_readPlank_56 : decode cX12_readPlank 56 = .ok (.aload_n 0, 1) := by decide +kernel
theorem dX12_readPlank_57 : decode cX12_readPlank 57 = .ok (.getfield 96, 3) := by decide +kernel
theorem dX12_readPlank_60 : decode cX12_readPlank 60 = .ok (.iconst 2, 1) := by decide +kernel
theorem dX12_readPlank_61 : decode cX12_readPlank 61 = .ok (.if_icmp .ne 30, 3) := by decide +kernel
theorem dX12_readPlank_64 : decode cX12_readPlank 64 = .ok (.iload_n 3, 1) := by decide +kernel
theorem dX12_readPlank_65 : decode cX12_readPlank 65 = .ok (.iconst 0, 1) := by decide +kernel
theorem dX12_readPlank_66 : decode cX12_readPlank 66 = .ok (.aload_n 0, 1) := by decide +kernel
theorem dX12_readPlank_67 : decode cX12_readPlank 67 = .ok (.getfield 113, 3) := by decide +kernel
theorem dX12_readPlank_70 : decode cX12_readPlank 70 = .ok (.iconst 1, 1) := by decide +kernel
theorem dX12_readPlank_71 : decode cX12_readPlank 71 = .ok (.isub, 1) := by decide +kernel
theorem dX12_readPlank_72 : decode cX12_readPlank 72 = .ok (.invokestatic 73, 3) := by decide +kernel
theorem dX12_readPlank_75 : decode cX12_readPlank 75 = .ok (.ifCond .eq 16, 3) := by decide +kernel
theorem dX12_readPlank_78 : decode cX12_readPlank 78 = .ok (.aload_n 0, 1) := by decide +kernel
theorem dX12_readPlank_79 : decode cX12_readPlank 79 = .ok (.iload_n 2, 1) := by decide +kernel
theorem dX12_readPlank_80 : decode cX12_readPlank 80 = .ok (.iload_n 3, 1) := by decide +kernel
theorem dX12_readPlank_81 : decode cX12_readPlank 81 = .ok (.invokevirtual 123, 3) := by decide +kernel
theorem dX12_readPlank_84 : decode cX12_readPlank 84 = .ok (.ifCond .eq 7, 3) := by decide +kernel
theorem dX12_readPlank_87 : decode cX12_readPlank 87 = .ok (.iconst 1, 1) := by decide +kernel
theorem dX12_readPlank_88 : decode cX12_readPlank 88 = .ok (.goto 4, 3) := by decide +kernel
theorem dX12_readPlank_91 : decode cX12_readPlank 91 = .ok (.iconst 0, 1) := by decide +kernel
theorem dX12_readPlank_92 : decode cX12_readPlank 92 = .ok (.invokevirtual 109, 3) := by decide +kernel
theorem dX12_readPlank_95 : decode cX12_readPlank 95 = .ok (.aload_n 0, 1) := by decide +kernel
theorem dX12_readPlank_96 : decode cX12_readPlank 96 = .ok (.getfield 41, 3) := by decide +kernel
theorem dX12_readPlank_99 : decode cX12_readPlank 99 = .ok (.iload_n 1, 1) := by decide +kernel
theorem dX12_readPlank_100 : decode cX12_readPlank 100 = .ok (.iconst 1, 1) := by decide +kernel
theorem dX12_readPlank_101 : decode cX12_readPlank 101 = .ok (.iadd, 1) := by decide +kernel
theorem dX12_readPlank_102 : decode cX12_readPlank 102 = .ok (.iload_n 3, 1) := by decide +kernel
theorem dX12_readPlank_103 : decode cX12_readPlank 103 = .ok (.iastore, 1) := by decide +kernel
theorem dX12_readPlank_104 : decode cX12_readPlank 104 = .ok (.aload_n 0, 1) := by decide +kernel
theorem dX12_readPlank_105 : decode cX12_readPlank 105 = .ok (.aload_n 0, 1) := by decide +kernel
theorem dX12_readPlank_106 : decode cX12_readPlank 106 = .ok (.getfield 41, 3) := by decide +kernel
theorem dX12_readPlank_109 : decode cX12_readPlank 109 = .ok (.iload_n 1, 1) := by decide +kernel
theorem dX12_readPlank_110 : decode cX12_readPlank 110 = .ok (.iconst 2, 1) := by decide +kernel
theorem dX12_readPlank_111 : decode cX12_readPlank 111 = .ok (.iadd, 1) := by decide +kernel
theorem dX12_readPlank_112 : decode cX12_readPlank 112 = .ok (.iconst 1, 1) := by decide +kernel
theorem dX12_readPlank_113 : decode cX12_readPlank 113 = .ok (.bipush 40, 2) := by decide +kernel
theorem dX12_readPlank_115 : decode cX12_readPlank 115 = .ok (.invokevirtual 116, 3) := by decide +kernel
theorem dX12_readPlank_118 : decode cX12_readPlank 118 = .ok (.pop, 1) := by decide +kernel
theorem dX12_readPlank_119 : decode cX12_readPlank 119 = .ok (.aload_n 0, 1) := by decide +kernel
theorem dX12_readPlank_120 : decode cX12_readPlank 120 = .ok (.aload_n 0, 1) := by decide +kernel
theorem dX12_readPlank_121 : decode cX12_readPlank 121 = .ok (.getfield 41, 3) := by decide +kernel
theorem dX12_readPlank_124 : decode cX12_readPlank 124 = .ok (.iload_n 1, 1) := by decide +kernel
theorem dX12_readPlank_125 : decode cX12_readPlank 125 = .ok (.iconst 3, 1) := by decide +kernel
theorem dX12_readPlank_126 : decode cX12_readPlank 126 = .ok (.iadd, 1) := by decide +kernel
theorem dX12_readPlank_127 : decode cX12_readPlank 127 = .ok (.iconst 0, 1) := by decide +kernel
theorem dX12_readPlank_128 : decode cX12_readPlank 128 = .ok (.iconst 3, 1) := by decide +kernel
theorem dX12_readPlank_129 : decode cX12_readPlank 129 = .ok (.invokevirtual 116, 3) := by decide +kernel
theorem dX12_readPlank_132 : decode cX12_readPlank 132 = .ok (.pop, 1) := by decide +kernel
theorem dX12_readPlank_133 : decode cX12_readPlank 133 = .ok (.aload_n 0, 1) := by decide +kernel
theorem dX12_readPlank_134 : decode cX12_readPlank 134 = .ok (.aload_n 0, 1) := by decide +kernel
theorem dX12_readPlank_135 : decode cX12_readPlank 135 = .ok (.getfield 41, 3) := by decide +kernel
theorem dX12_readPlank_138 : decode cX12_readPlank 138 = .ok (.iload_n 1, 1) := by decide +kernel
theorem dX12_readPlank_139 : decode cX12_readPlank 139 = .ok (.iconst 4, 1) := by decide +kernel
theorem dX12_readPlank_140 : decode cX12_readPlank 140 = .ok (.iadd, 1) := by decide +kernel
theorem dX12_readPlank_141 : decode cX12_readPlank 141 = .ok (.iconst 0, 1) := by decide +kernel
theorem dX12_readPlank_142 : decode cX12_readPlank 142 = .ok (.iconst 3, 1) := by decide +kernel
theorem dX12_readPlank_143 : decode cX12_readPlank 143 = .ok (.invokevirtual 116, 3) := by decide +kernel
theorem dX12_readPlank_146 : decode cX12_readPlank 146 = .ok (.pop, 1) := by decide +kernel
theorem dX12_readPlank_147 : decode cX12_readPlank 147 = .ok (.aload_n 0, 1) := by decide +kernel
theorem dX12_readPlank_148 : decode cX12_readPlank 148 = .ok (.aload_n 0, 1) := by decide +kernel
theorem dX12_readPlank_149 : decode cX12_readPlank 149 = .ok (.getfield 96, 3) := by decide +kernel
theorem dX12_readPlank_152 : decode cX12_readPlank 152 = .ok (.iconst 3, 1) := by decide +kernel
theorem dX12_readPlank_153 : decode cX12_readPlank 153 = .ok (.if_icmp .ne 7, 3) := by decide +kernel
theorem dX12_readPlank_156 : decode cX12_readPlank 156 = .ok (.iconst 1, 1) := by decide +kernel
theorem dX12_readPlank_157 : decode cX12_readPlank 157 = .ok (.goto 4, 3) := by decide +kernel
theorem dX12_readPlank_160 : decode cX12_readPlank 160 = .ok (.iconst 0, 1) := by decide +kernel
theorem dX12_readPlank_161 : decode cX12_readPlank 161 = .ok (.invokevirtual 109, 3) := by decide +kernel
theorem dX12_readPlank_164 : decode cX12_readPlank 164 = .ok (.aload_n 0, 1) := by decide +kernel
theorem dX12_readPlank_165 : decode cX12_readPlank 165 = .ok (.dup, 1) := by decide +kernel
theorem dX12_readPlank_166 : decode cX12_readPlank 166 = .ok (.getfield 120, 3) := by decide +kernel
theorem dX12_readPlank_169 : decode cX12_readPlank 169 = .ok (.iconst 1, 1) := by decide +kernel
theorem dX12_readPlank_170 : decode cX12_readPlank 170 = .ok (.iadd, 1) := by decide +kernel
theorem dX12_readPlank_171 : decode cX12_readPlank 171 = .ok (.putfield 120, 3) := by decide +kernel
theorem dX12_readPlank_174 : decode cX12_readPlank 174 = .ok (.return_, 1) := by decide +kernel
theorem dX12_readChild_0 : decode cX12_readChild 0 = .ok (.aload_n 0, 1) := by decide +kernel
theorem dX12_readChild_1 : decode cX12_readChild 1 = .ok (.aload_n 0, 1) := by decide +kernel
theorem dX12_readChild_2 : decode cX12_readChild 2 = .ok (.getfield 127, 3) := by decide +kernel
theorem dX12_readChild_5 : decode cX12_readChild 5 = .ok (.iconst 5, 1) := by decide +kernel
theorem dX12_readChild_6 : decode cX12_readChild 6 = .ok (.if_icmp .ge 7, 3) := by decide +kernel
theorem dX12_readChild_9 : decode cX12_readChild 9 = .ok (.iconst 1, 1) := by decide +kernel
theorem dX12_readChild_10 : decode cX12_readChild 10 = .ok (.goto 4, 3) := by decide +kernel
theorem dX12_readChild_13 : decode cX12_readChild 13 = .ok (.iconst 0, 1) := by decide +kernel
theorem dX12_readChild_14 : decode cX12_readChild 14 = .ok (.invokevirtual 109, 3) := by decide +kernel
theorem dX12_readChild_17 : decode cX12_readChild 17 = .ok (.aload_n 0, 1) := by decide +kernel
theorem dX12_readChild_18 : decode cX12_readChild 18 = .ok (.getfield 102, 3) := by decide +kernel
theorem dX12_readChild_21 : decode cX12_readChild 21 = .ok (.ifCond .eq 4, 3) := by decide +kernel
theorem dX12_readChild_24 : decode cX12_readChild 24 = .ok (.return_, 1) := by decide +kernel
theorem dX12_readChild_25 : decode cX12_readChild 25 = .ok (.aload_n 0, 1) := by decide +kernel
theorem dX12_readChild_26 : decode cX12_readChild 26 = .ok (.aload_n 0, 1) := by decide +kernel
theorem dX12_readChild_27 : decode cX12_readChild 27 = .ok (.getfield 44, 3) := by decide +kernel
theorem dX12_readChild_30 : decode cX12_readChild 30 = .ok (.iconst 2, 1) := by decide +kernel
theorem dX12_readChild_31 : decode cX12_readChild 31 = .ok (.aload_n 0, 1) := by decide +kernel
theorem dX12_readChild_32 : decode cX12_readChild 32 = .ok (.getfield 127, 3) := by decide +kernel
theorem dX12_readChild_35 : decode cX12_readChild 35 = .ok (.imul, 1) := by decide +kernel
theorem dX12_readChild_36 : decode cX12_readChild 36 = .ok (.iconst 1, 1) := by decide +kernel
theorem dX12_readChild_37 : decode cX12_readChild 37 = .ok (.bipush 9, 2) := by decide +kernel
theorem dX12_readChild_39 : decode cX12_readChild 39 = .ok (.invokevirtual 116, 3) := by decide +kernel
theorem dX12_readChild_42 : decode cX12_readChild 42 = .ok (.pop, 1) := by decide +kernel
theorem dX12_readChild_43 : decode cX12_readChild 43 = .ok (.aload_n 0, 1) := by decide +kernel
theorem dX12_readChild_44 : decode cX12_readChild 44 = .ok (.aload_n 0, 1) := by decide +kernel
theorem dX12_readChild_45 : decode cX12_readChild 45 = .ok (.getfield 44, 3) := by decide +kernel
theorem dX12_readChild_48 : decode cX12_readChild 48 = .ok (.iconst 2, 1) := by decide +kernel
theorem dX12_readChild_49 : decode cX12_readChild 49 = .ok (.aload_n 0, 1) := by decide +kernel
theorem dX12_readChild_50 : decode cX12_readChild 50 = .ok (.getfield 127, 3) := by decide +kernel
theorem dX12_readChild_53 : decode cX12_readChild 53 = .ok (.imul, 1) := by decide +kernel
theorem dX12_readChild_54 : decode cX12_readChild 54 = .ok (.iconst 1, 1) := by decide +kernel
theorem dX12_readChild_55 : decode cX12_readChild 55 = .ok (.iadd, 1) := by decide +kernel
theorem dX12_readChild_56 : decode cX12_readChild 56 = .ok (.iconst 0, 1) := by decide +kernel
theorem dX12_readChild_57 : decode cX12_readChild 57 = .ok (.bipush 9, 2) := by decide +kernel
theorem dX12_readChild_59 : decode cX12_readChild 59 = .ok (.invokevirtual 116, 3) := by decide +kernel
theorem dX12_readChild_62 : decode cX12_readChild 62 = .ok (.pop, 1) := by decide +kernel
theorem dX12_readChild_63 : decode cX12_readChild 63 = .ok (.aload_n 0, 1) := by decide +kernel
theorem dX12_readChild_64 : decode cX12_readChild 64 = .ok (.aload_n 0, 1) := by decide +kernel
theorem dX12_readChild_65 : decode cX12_readChild 65 = .ok (.getfield 96, 3) := by decide +kernel
theorem dX12_readChild_68 : decode cX12_readChild 68 = .ok (.iconst 3, 1) := by decide +kernel
theorem dX12_readChild_69 : decode cX12_readChild 69 = .ok (.if_icmp .ne 7, 3) := by decide +kernel
theorem dX12_readChild_72 : decode cX12_readChild 72 = .ok (.iconst 1, 1) := by decide +kernel
theorem dX12_readChild_73 : decode cX12_readChild 73 = .ok (.goto 4, 3) := by decide +kernel
theorem dX12_readChild_76 : decode cX12_readChild 76 = .ok (.iconst 0, 1) := by decide +kernel
theorem dX12_readChild_77 : decode cX12_readChild 77 = .ok (.invokevirtual 109, 3) := by decide +kernel
theorem dX12_readChild_80 : decode cX12_readChild 80 = .ok (.aload_n 0, 1) := by decide +kernel
theorem dX12_readChild_81 : decode cX12_readChild 81 = .ok (.dup, 1) := by decide +kernel
theorem dX12_readChild_82 : decode cX12_readChild 82 = .ok (.getfield 127, 3) := by decide +kernel
theorem dX12_readChild_85 : decode cX12_readChild 85 = .ok (.iconst 1, 1) := by decide +kernel
theorem dX12_readChild_86 : decode cX12_readChild 86 = .ok (.iadd, 1) := by decide +kernel
theorem dX12_readChild_87 : decode cX12_readChild 87 = .ok (.putfield 127, 3) := by decide +kernel
theorem dX12_readChild_90 : decode cX12_readChild 90 = .ok (.return_, 1) := by decide +kernel
theorem dX12_readItem_0 : decode cX12_readItem 0 = .ok (.aload_n 0, 1) := by decide +kernel
theorem dX12_readItem_1 : decode cX12_readItem 1 = .ok (.getfield 96, 3) := by decide +kernel
theorem dX12_readItem_4 : decode cX12_readItem 4 = .ok (.iconst 1, 1) := by decide +kernel
theorem dX12_readItem_5 : decode cX12_readItem 5 = .ok (.if_icmp .ne 10, 3) := by decide +kernel
theorem dX12_readItem_8 : decode cX12_readItem 8 = .ok (.aload_n 0, 1) := by decide +kernel
theorem dX12_readItem_9 : decode cX12_readItem 9 = .ok (.getfield 99, 3) := by decide +kernel
theorem dX12_readItem_12 : decode cX12_readItem 12 = .ok (.goto 4, 3) := by decide +kernel
theorem dX12_readItem_15 : decode cX12_readItem 15 = .ok (.iconst 0, 1) := by decide +kernel
theorem dX12_readItem_16 : decode cX12_readItem 16 = .ok (.istore_n 1, 1) := by decide +kernel
theorem dX12_readItem_17 : decode cX12_readItem 17 = .ok (.iload_n 1, 1) := by decide +kernel
theorem dX12_readItem_18 : decode cX12_readItem 18 = .ok (.bipush 98, 2) := by decide +kernel
theorem dX12_readItem_20 : decode cX12_readItem 20 = .ok (.if_icmp .ne 10, 3) := by decide +kernel
theorem dX12_readItem_23 : decode cX12_readItem 23 = .ok (.aload_n 0, 1) := by decide +kernel
theorem dX12_readItem_24 : decode cX12_readItem 24 = .ok (.invokevirtual 130, 3) := by decide +kernel
theorem dX12_readItem_27 : decode cX12_readItem 27 = .ok (.goto 34, 3) := by decide +kernel
theorem dX12_readItem_30 : decode cX12_readItem 30 = .ok (.iload_n 1, 1) := by decide +kernel
theorem dX12_readItem_31 : decode cX12_readItem 31 = .ok (.bipush 112, 2) := by decide +kernel
theorem dX12_readItem_33 : decode cX12_readItem 33 = .ok (.if_icmp .ne 10, 3) := by decide +kernel
theorem dX12_readItem_36 : decode cX12_readItem 36 = .ok (.aload_n 0, 1) := by decide +kernel
theorem dX12_readItem_37 : decode cX12_readItem 37 = .ok (.invokevirtual 133, 3) := by decide +kernel
theorem dX12_readItem_40 : decode cX12_readItem 40 = .ok (.goto 21, 3) := by decide +kernel
theorem dX12_readItem_43 : decode cX12_readItem 43 = .ok (.iload_n 1, 1) := by decide +kernel
theorem dX12_readItem_44 : decode cX12_readItem 44 = .ok (.bipush 99, 2) := by decide +kernel
theorem dX12_readItem_46 : decode cX12_readItem 46 = .ok (.if_icmp .ne 10, 3) := by decide +kernel
theorem dX12_readItem_49 : decode cX12_readItem 49 = .ok (.aload_n 0, 1) := by decide +kernel
theorem dX12_readItem_50 : decode cX12_readItem 50 = .ok (.invokevirtual 136, 3) := by decide +kernel
theorem dX12_readItem_53 : decode cX12_readItem 53 = .ok (.goto 8, 3) := by decide +kernel
theorem dX12_readItem_56 : decode cX12_readItem 56 = .ok (.aload_n 0, 1) := by decide +kernel
theorem dX12_readItem_57 : decode cX12_readItem 57 = .ok (.iconst 1, 1) := by decide +kernel
theorem dX12_readItem_58 : decode cX12_readItem 58 = .ok (.putfield 102, 3) := by decide +kernel
theorem dX12_readItem_61 : decode cX12_readItem 61 = .ok (.return_, 1) := by decide +kernel
theorem dX12_tree_0 : decode cX12_tree 0 = .ok (.aload_n 0, 1) := by decide +kernel
theorem dX12_tree_1 : decode cX12_tree 1 = .ok (.iconst 0, 1) := by decide +kernel
theorem dX12_tree_2 : decode cX12_tree 2 = .ok (.putfield 86, 3) := by decide +kernel
theorem dX12_tree_5 : decode cX12_tree 5 = .ok (.aload_n 0, 1) := by decide +kernel
theorem dX12_tree_6 : decode cX12_tree 6 = .ok (.iconst 0, 1) := by decide +kernel
theorem dX12_tree_7 : decode cX12_tree 7 = .ok (.putfield 102, 3) := by decide +kernel
theorem dX12_tree_10 : decode cX12_tree 10 = .ok (.aload_n 0, 1) := by decide +kernel
theorem dX12_tree_11 : decode cX12_tree 11 = .ok (.iconst 0, 1) := by decide +kernel
theorem dX12_tree_12 : decode cX12_tree 12 = .ok (.putfield 113, 3) := by decide +kernel
theorem dX12_tree_15 : decode cX12_tree 15 = .ok (.aload_n 0, 1) := by decide +kernel
theorem dX12_tree_16 : decode cX12_tree 16 = .ok (.iconst 0, 1) := by decide +kernel
theorem dX12_tree_17 : decode cX12_tree 17 = .ok (.putfield 120, 3) := by decide +kernel
theorem dX12_tree_20 : decode cX12_tree 20 = .ok (.aload_n 0, 1) := by decide +kernel
theorem dX12_tree_21 : decode cX12_tree 21 = .ok (.iconst 0, 1) := by decide +kernel
theorem dX12_tree_22 : decode cX12_tree 22 = .ok (.putfield 127, 3) := by decide +kernel
theorem dX12_tree_25 : decode cX12_tree 25 = .ok (.iconst 0, 1) := by decide +kernel
theorem dX12_tree_26 : decode cX12_tree 26 = .ok (.istore_n 1, 1) := by decide +kernel
theorem dX12_tree_27 : decode cX12_tree 27 = .ok (.aload_n 0, 1) := by decide +kernel
theorem dX12_tree_28 : decode cX12_tree 28 = .ok (.invokevirtual 106, 3) := by decide +kernel
theorem dX12_tree_31 : decode cX12_tree 31 = .ok (.aload_n 0, 1) := by decide +kernel
theorem dX12_tree_32 : decode cX12_tree 32 = .ok (.getfield 96, 3) := by decide +kernel
theorem dX12_tree_35 : decode cX12_tree 35 = .ok (.ifCond .eq 20, 3) := by decide +kernel
theorem dX12_tree_38 : decode cX12_tree 38 = .ok (.aload_n 0, 1) := by decide +kernel
theorem dX12_tree_39 : decode cX12_tree 39 = .ok (.getfield 102, 3) := by decide +kernel
theorem dX12_tree_42 : decode cX12_tree 42 = .ok (.ifCond .ne 13, 3) := by decide +kernel
theorem dX12_tree_45 : decode cX12_tree 45 = .ok (.aload_n 0, 1) := by decide +kernel
theorem dX12_tree_46 : decode cX12_tree 46 = .ok (.invokevirtual 139, 3) := by decide +kernel
theorem dX12_tree_49 : decode cX12_tree 49 = .ok (.iinc 1 1, 3) := by decide +kernel
theorem dX12_tree_52 : decode cX12_tree 52 = .ok (.goto (-21), 3) := by decide +kernel
theorem dX12_tree_55 : decode cX12_tree 55 = .ok (.aload_n 0, 1) := by decide +kernel
theorem dX12_tree_56 : decode cX12_tree 56 = .ok (.getfield 102, 3) := by decide +kernel
theorem dX12_tree_59 : decode cX12_tree 59 = .ok (.ifCond .eq 11, 3) := by decide +kernel
theorem dX12_tree_62 : decode cX12_tree 62 = .ok (.bipush (-10), 2) := by decide +kernel
theorem dX12_tree_64 : decode cX12_tree 64 = .ok (.aload_n 0, 1) := by decide +kernel
theorem dX12_tree_65 : decode cX12_tree 65 = .ok (.getfield 93, 3) := by decide +kernel
theorem dX12_tree_68 : decode cX12_tree 68 = .ok (.isub, 1) := by decide +kernel
theorem dX12_tree_69 : decode cX12_tree 69 = .ok (.ireturn, 1) := by decide +kernel
theorem dX12_tree_70 : decode cX12_tree 70 = .ok (.aload_n 0, 1) := by decide +kernel
theorem dX12_tree_71 : decode cX12_tree 71 = .ok (.aload_n 0, 1) := by decide +kernel
theorem dX12_tree_72 : decode cX12_tree 72 = .ok (.getfield 113, 3) := by decide +kernel
theorem dX12_tree_75 : decode cX12_tree 75 = .ok (.putfield 69, 3) := by decide +kernel
theorem dX12_tree_78 : decode cX12_tree 78 = .ok (.aload_n 0, 1) := by decide +kernel
theorem dX12_tree_79 : decode cX12_tree 79 = .ok (.aload_n 0, 1) := by decide +kernel
theorem dX12_tree_80 : decode cX12_tree 80 = .ok (.getfield 120, 3) := by decide +kernel
theorem dX12_tree_83 : decode cX12_tree 83 = .ok (.putfield 77, 3) := by decide +kernel
theorem dX12_tree_86 : decode cX12_tree 86 = .ok (.aload_n 0, 1) := by decide +kernel
theorem dX12_tree_87 : decode cX12_tree 87 = .ok (.aload_n 0, 1) := by decide +kernel
theorem dX12_tree_88 : decode cX12_tree 88 = .ok (.getfield 127, 3) := by decide +kernel
theorem dX12_tree_91 : decode cX12_tree 91 = .ok (.putfield 80, 3) := by decide +kernel
theorem dX12_tree_94 : decode cX12_tree 94 = .ok (.iconst 0, 1) := by decide +kernel
theorem dX12_tree_95 : decode cX12_tree 95 = .ok (.istore_n 2, 1) := by decide +kernel
theorem dX12_tree_96 : decode cX12_tree 96 = .ok (.iload_n 2, 1) := by decide +kernel
theorem dX12_tree_97 : decode cX12_tree 97 = .ok (.bipush 42, 2) := by decide +kernel
theorem dX12_tree_99 : decode cX12_tree 99 = .ok (.if_icmp .ge 16, 3) := by decide +kernel
theorem dX12_tree_102 : decode cX12_tree 102 = .ok (.aload_n 0, 1) := by decide +kernel
theorem dX12_tree_103 : decode cX12_tree 103 = .ok (.getfield 19, 3) := by decide +kernel
theorem dX12_tree_106 : decode cX12_tree 106 = .ok (.iload_n 2, 1) := by decide +kernel
theorem dX12_tree_107 : decode cX12_tree 107 = .ok (.iconst 0, 1) := by decide +kernel
theorem dX12_tree_108 : decode cX12_tree 108 = .ok (.iastore, 1) := by decide +kernel
theorem dX12_tree_109 : decode cX12_tree 109 = .ok (.iinc 2 1, 3) := by decide +kernel
theorem dX12_tree_112 : decode cX12_tree 112 = .ok (.goto (-16), 3) := by decide +kernel
theorem dX12_tree_115 : decode cX12_tree 115 = .ok (.iconst 0, 1) := by decide +kernel
theorem dX12_tree_116 : decode cX12_tree 116 = .ok (.istore_n 2, 1) := by decide +kernel
theorem dX12_tree_117 : decode cX12_tree 117 = .ok (.iload_n 2, 1) := by decide +kernel
theorem dX12_tree_118 : decode cX12_tree 118 = .ok (.bipush 24, 2) := by decide +kernel
theorem dX12_tree_120 : decode cX12_tree 120 = .ok (.if_icmp .ge 21, 3) := by decide +kernel
theorem dX12_tree_123 : decode cX12_tree 123 = .ok (.aload_n 0, 1) := by decide +kernel
theorem dX12_tree_124 : decode cX12_tree 124 = .ok (.getfield 7, 3) := by decide +kernel
theorem dX12_tree_127 : decode cX12_tree 127 = .ok (.iload_n 2, 1) := by decide +kernel
theorem dX12_tree_128 : decode cX12_tree 128 = .ok (.aload_n 0, 1) := by decide +kernel
theorem dX12_tree_129 : decode cX12_tree 129 = .ok (.getfield 38, 3) := by decide +kernel
theorem dX12_tree_132 : decode cX12_tree 132 = .ok (.iload_n 2, 1) := by decide +kernel
theorem dX12_tree_133 : decode cX12_tree 133 = .ok (.iaload, 1) := by decide +kernel
theorem dX12_tree_134 : decode cX12_tree 134 = .ok (.iastore, 1) := by decide +kernel
theorem dX12_tree_135 : decode cX12_tree 135 = .ok (.iinc 2 1, 3) := by decide +kernel
theorem dX12_tree_138 : decode cX12_tree 138 = .ok (.goto (-21), 3) := by decide +kernel
theorem dX12_tree_141 : decode cX12_tree 141 = .ok (.iconst 0, 1) := by decide +kernel
theorem dX12_tree_142 : decode cX12_tree 142 = .ok (.istore_n 2, 1) := by decide +kernel
theorem dX12_tree_143 : decode cX12_tree 143 = .ok (.iload_n 2, 1) := by decide +kernel
theorem dX12_tree_144 : decode cX12_tree 144 = .ok (.aload_n 0, 1) := by decide +kernel
theorem dX12_tree_145 : decode cX12_tree 145 = .ok (.getfield 77, 3) := by decide +kernel
theorem dX12_tree_148 : decode cX12_tree 148 = .ok (.if_icmp .ge 88, 3) := by decide +kernel
theorem dX12_tree_151 : decode cX12_tree 151 = .ok (.iconst 0, 1) := by decide +kernel
theorem dX12_tree_152 : decode cX12_tree 152 = .ok (.istore_n 3, 1) := by decide +kernel
theorem dX12_tree_153 : decode cX12_tree 153 = .ok (.iload_n 3, 1) := by decide +kernel
theorem dX12_tree_154 : decode cX12_tree 154 = .ok (.iconst 3, 1) := by decide +kernel
theorem dX12_tree_155 : decode cX12_tree 155 = .ok (.if_icmp .ge 29, 3) := by decide +kernel
theorem dX12_tree_158 : decode cX12_tree 158 = .ok (.aload_n 0, 1) := by decide +kernel
theorem dX12_tree_159 : decode cX12_tree 159 = .ok (.getfield 13, 3) := by decide +kernel
theorem dX12_tree_162 : decode cX12_tree 162 = .ok (.iconst 3, 1) := by decide +kernel
theorem dX12_tree_163 : decode cX12_tree 163 = .ok (.iload_n 2, 1) := by decide +kernel
theorem dX12_tree_164 : decode cX12_tree 164 = .ok (.imul, 1) := by decide +kernel
theorem dX12_tree_165 : decode cX12_tree 165 = .ok (.iload_n 3, 1) := by decide +kernel
theorem dX12_tree_166 : decode cX12_tree 166 = .ok (.iadd, 1) := by decide +kernel
theorem dX12_tree_167 : decode cX12_tree 167 = .ok (.aload_n 0, 1) := by decide +kernel
theorem dX12_tree_168 : decode cX12_tree 168 = .ok (.getfield 41, 3) := by decide +kernel
theorem dX12_tree_171 : decode cX12_tree 171 = .ok (.iconst 5, 1) := by decide +kernel
theorem dX12_tree_172 : decode cX12_tree 172 = .ok (.iload_n 2, 1) := by decide +kernel
theorem dX12_tree_173 : decode cX12_tree 173 = .ok (.imul, 1) := by decide +kernel
theorem dX12_tree_174 : decode cX12_tree 174 = .ok (.iload_n 3, 1) := by decide +kernel
theorem dX12_tree_175 : decode cX12_tree 175 = .ok (.iadd, 1) := by decide +kernel
theorem dX12_tree_176 : decode cX12_tree 176 = .ok (.iaload, 1) := by decide +kernel
theorem dX12_tree_177 : decode cX12_tree 177 = .ok (.iastore, 1) := by decide +kernel
theorem dX12_tree_178 : decode cX12_tree 178 = .ok (.iinc 3 1, 3) := by decide +kernel
theorem dX12_tree_181 : decode cX12_tree 181 = .ok (.goto (-28), 3) := by decide +kernel
theorem dX12_tree_184 : decode cX12_tree 184 = .ok (.aload_n 0, 1) := by decide +kernel
theorem dX12_tree_185 : decode cX12_tree 185 = .ok (.getfield 19, 3) := by decide +kernel
theorem dX12_tree_188 : decode cX12_tree 188 = .ok (.bipush 6, 2) := by decide +kernel
theorem dX12_tree_190 : decode cX12_tree 190 = .ok (.bipush 6, 2) := by decide +kernel
theorem dX12_tree_192 : decode cX12_tree 192 = .ok (.iload_n 2, 1) := by decide +kernel
theorem dX12_tree_193 : decode cX12_tree 193 = .ok (.imul, 1) := by decide +kernel
theorem dX12_tree_194 : decode cX12_tree 194 = .ok (.iadd, 1) := by decide +kernel
theorem dX12_tree_195 : decode cX12_tree 195 = .ok (.aload_n 0, 1) := by decide +kernel
theorem dX12_tree_196 : decode cX12_tree 196 = .ok (.getfield 41, 3) := by decide +kernel
theorem dX12_tree_199 : decode cX12_tree 199 = .ok (.iconst 5, 1) := by decide +kernel
theorem dX12_tree_200 : decode cX12_tree 200 = .ok (.iload_n 2, 1) := by decide +kernel
theorem dX12_tree_201 : decode cX12_tree 201 = .ok (.imul, 1) := by decide +kernel
theorem dX12_tree_202 : decode cX12_tree 202 = .ok (.iconst 3, 1) := by decide +kernel
theorem dX12_tree_203 : decode cX12_tree 203 = .ok (.iadd, 1) := by decide +kernel
theorem dX12_tree_204 : decode cX12_tree 204 = .ok (.iaload, 1) := by decide +kernel
theorem dX12_tree_205 : decode cX12_tree 205 = .ok (.iastore, 1) := by decide +kernel
theorem dX12_tree_206 : decode cX12_tree 206 = .ok (.aload_n 0, 1) := by decide +kernel
theorem dX12_tree_207 : decode cX12_tree 207 = .ok (.getfield 19, 3) := by decide +kernel
theorem dX12_tree_210 : decode cX12_tree 210 = .ok (.bipush 6, 2) := by decide +kernel
theorem dX12_tree_212 : decode cX12_tree 212 = .ok (.bipush 6, 2) := by decide +kernel
theorem dX12_tree_214 : decode cX12_tree 214 = .ok (.iload_n 2, 1) := by decide +kernel
theorem dX12_tree_215 : decode cX12_tree 215 = .ok (.imul, 1) := by decide +kernel
theorem dX12_tree_216 : decode cX12_tree 216 = .ok (.iadd, 1) := by decide +kernel
theorem dX12_tree_217 : decode cX12_tree 217 = .ok (.iconst 3, 1) := by decide +kernel
theorem dX12_tree_218 : decode cX12_tree 218 = .ok (.iadd, 1) := by decide +kernel
theorem dX12_tree_219 : decode cX12_tree 219 = .ok (.aload_n 0, 1) := by decide +kernel
theorem dX12_tree_220 : decode cX12_tree 220 = .ok (.getfield 41, 3) := by decide +kernel
theorem dX12_tree_223 : decode cX12_tree 223 = .ok (.iconst 5, 1) := by decide +kernel
theorem dX12_tree_224 : decode cX12_tree 224 = .ok (.iload_n 2, 1) := by decide +kernel
theorem dX12_tree_225 : decode cX12_tree 225 = .ok (.imul, 1) := by decide +kernel
theorem dX12_tree_226 : decode cX12_tree 226 = .ok (.iconst 4, 1) := by decide +kernel
theorem dX12_tree_227 : decode cX12_tree 227 = .ok (.iadd, 1) := by decide +kernel
theorem dX12_tree_228 : decode cX12_tree 228 = .ok (.iaload, 1) := by decide +kernel
theorem dX12_tree_229 : decode cX12_tree 229 = .ok (.iastore, 1) := by decide +kernel
theorem dX12_tree_230 : decode cX12_tree 230 = .ok (.iinc 2 1, 3) := by decide +kernel
theorem dX12_tree_233 : decode cX12_tree 233 = .ok (.goto (-90), 3) := by decide +kernel
theorem dX12_tree_236 : decode cX12_tree 236 = .ok (.iconst 0, 1) := by decide +kernel
theorem dX12_tree_237 : decode cX12_tree 237 = .ok (.istore_n 2, 1) := by decide +kernel
theorem dX12_tree_238 : decode cX12_tree 238 = .ok (.iload_n 2, 1) := by decide +kernel
theorem dX12_tree_239 : decode cX12_tree 239 = .ok (.bipush 10, 2) := by decide +kernel
theorem dX12_tree_241 : decode cX12_tree 241 = .ok (.if_icmp .ge 21, 3) := by decide +kernel
theorem dX12_tree_244 : decode cX12_tree 244 = .ok (.aload_n 0, 1) := by decide +kernel
theorem dX12_tree_245 : decode cX12_tree 245 = .ok (.getfield 16, 3) := by decide +kernel
theorem dX12_tree_248 : decode cX12_tree 248 = .ok (.iload_n 2, 1) := by decide +kernel
theorem dX12_tree_249 : decode cX12_tree 249 = .ok (.aload_n 0, 1) := by decide +kernel
theorem dX12_tree_250 : decode cX12_tree 250 = .ok (.getfield 44, 3) := by decide +kernel
theorem dX12_tree_253 : decode cX12_tree 253 = .ok (.iload_n 2, 1) := by decide +kernel
theorem dX12_tree_254 : decode cX12_tree 254 = .ok (.iaload, 1) := by decide +kernel
theorem dX12_tree_255 : decode cX12_tree 255 = .ok (.iastore, 1) := by decide +kernel
theorem dX12_tree_256 : decode cX12_tree 256 = .ok (.iinc 2 1, 3) := by decide +kernel
theorem dX12_tree_259 : decode cX12_tree 259 = .ok (.goto (-21), 3) := by decide +kernel
theorem dX12_tree_262 : decode cX12_tree 262 = .ok (.iconst 0, 1) := by decide +kernel
theorem dX12_tree_263 : decode cX12_tree 263 = .ok (.istore_n 2, 1) := by decide +kernel
theorem dX12_tree_264 : decode cX12_tree 264 = .ok (.iload_n 2, 1) := by decide +kernel
theorem dX12_tree_265 : decode cX12_tree 265 = .ok (.iconst 5, 1) := by decide +kernel
theorem dX12_tree_266 : decode cX12_tree 266 = .ok (.if_icmp .ge 19, 3) := by decide +kernel
theorem dX12_tree_269 : decode cX12_tree 269 = .ok (.aload_n 0, 1) := by decide +kernel
theorem dX12_tree_270 : decode cX12_tree 270 = .ok (.getfield 19, 3) := by decide +kernel
theorem dX12_tree_273 : decode cX12_tree 273 = .ok (.iconst 1, 1) := by decide +kernel
theorem dX12_tree_274 : decode cX12_tree 274 = .ok (.iload_n 2, 1) := by decide +kernel
theorem dX12_tree_275 : decode cX12_tree 275 = .ok (.iadd, 1) := by decide +kernel
theorem dX12_tree_276 : decode cX12_tree 276 = .ok (.bipush (-9), 2) := by decide +kernel
theorem dX12_tree_278 : decode cX12_tree 278 = .ok (.iastore, 1) := by decide +kernel
theorem dX12_tree_279 : decode cX12_tree 279 = .ok (.iinc 2 1, 3) := by decide +kernel
theorem dX12_tree_282 : decode cX12_tree 282 = .ok (.goto (-18), 3) := by decide +kernel
theorem dX12_tree_285 : decode cX12_tree 285 = .ok (.aload_n 0, 1) := by decide +kernel
theorem dX12_tree_286 : decode cX12_tree 286 = .ok (.iconst 0, 1) := by decide +kernel
theorem dX12_tree_287 : decode cX12_tree 287 = .ok (.putfield 142, 3) := by decide +kernel
theorem dX12_tree_290 : decode cX12_tree 290 = .ok (.aload_n 0, 1) := by decide +kernel
theorem dX12_tree_291 : decode cX12_tree 291 = .ok (.iconst 0, 1) := by decide +kernel
theorem dX12_tree_292 : decode cX12_tree 292 = .ok (.putfield 145, 3) := by decide +kernel
theorem dX12_tree_295 : decode cX12_tree 295 = .ok (.aload_n 0, 1) := by decide +kernel
theorem dX12_tree_296 : decode cX12_tree 296 = .ok (.getfield 28, 3) := by decide +kernel
theorem dX12_tree_299 : decode cX12_tree 299 = .ok (.iconst 0, 1) := by decide +kernel
theorem dX12_tree_300 : decode cX12_tree 300 = .ok (.iconst 0, 1) := by decide +kernel
theorem dX12_tree_301 : decode cX12_tree 301 = .ok (.bastore, 1) := by decide +kernel
theorem dX12_tree_302 : decode cX12_tree 302 = .ok (.aload_n 0, 1) := by decide +kernel
theorem dX12_tree_303 : decode cX12_tree 303 = .ok (.getfield 28, 3) := by decide +kernel
theorem dX12_tree_306 : decode cX12_tree 306 = .ok (.iconst 1, 1) := by decide +kernel
theorem dX12_tree_307 : decode cX12_tree 307 = .ok (.iconst 0, 1) := by decide +kernel
theorem dX12_tree_308 : decode cX12_tree 308 = .ok (.bastore, 1) := by decide +kernel
theorem dX12_tree_309 : decode cX12_tree 309 = .ok (.aload_n 0, 1) := by decide +kernel
theorem dX12_tree_310 : decode cX12_tree 310 = .ok (.iconst 0, 1) := by decide +kernel
theorem dX12_tree_311 : decode cX12_tree 311 = .ok (.putfield 83, 3) := by decide +kernel
theorem dX12_tree_314 : decode cX12_tree 314 = .ok (.iload_n 1, 1) := by decide +kernel
theorem dX12_tree_315 : decode cX12_tree 315 = .ok (.ireturn, 1) := by decide +kernel
theorem dX12_layNow_0 : decode cX12_layNow 0 = .ok (.iconst 0, 1) := by decide +kernel
theorem dX12_layNow_1 : decode cX12_layNow 1 = .ok (.istore_n 1, 1) := by decide +kernel
theorem dX12_layNow_2 : decode cX12_layNow 2 = .ok (.iload_n 1, 1) := by decide +kernel
theorem dX12_layNow_3 : decode cX12_layNow 3 = .ok (.iconst 5, 1) := by decide +kernel
theorem dX12_layNow_4 : decode cX12_layNow 4 = .ok (.if_icmp .ge 23, 3) := by decide +kernel
theorem dX12_layNow_7 : decode cX12_layNow 7 = .ok (.aload_n 0, 1) := by decide +kernel
theorem dX12_layNow_8 : decode cX12_layNow 8 = .ok (.getfield 47, 3) := by decide +kernel
theorem dX12_layNow_11 : decode cX12_layNow 11 = .ok (.iload_n 1, 1) := by decide +kernel
theorem dX12_layNow_12 : decode cX12_layNow 12 = .ok (.aload_n 0, 1) := by decide +kernel
theorem dX12_layNow_13 : decode cX12_layNow 13 = .ok (.getfield 19, 3) := by decide +kernel
theorem dX12_layNow_16 : decode cX12_layNow 16 = .ok (.iconst 1, 1) := by decide +kernel
theorem dX12_layNow_17 : decode cX12_layNow 17 = .ok (.iload_n 1, 1) := by decide +kernel
theorem dX12_layNow_18 : decode cX12_layNow 18 = .ok (.iadd, 1) := by decide +kernel
theorem dX12_layNow_19 : decode cX12_layNow 19 = .ok (.iaload, 1) := by decide +kernel
theorem dX12_layNow_20 : decode cX12_layNow 20 = .ok (.iastore, 1) := by decide +kernel
theorem dX12_layNow_21 : decode cX12_layNow 21 = .ok (.iinc 1 1, 3) := by decide +kernel
theorem dX12_layNow_24 : decode cX12_layNow 24 = .ok (.goto (-22), 3) := by decide +kernel
theorem dX12_layNow_27 : decode cX12_layNow 27 = .ok (.return_, 1) := by decide +kernel
theorem dX12_layLoads_0 : decode cX12_layLoads 0 = .ok (.iconst 0, 1) := by decide +kernel
theorem dX12_layLoads_1 : decode cX12_layLoads 1 = .ok (.istore_n 1, 1) := by decide +kernel
theorem dX12_layLoads_2 : decode cX12_layLoads 2 = .ok (.iload_n 1, 1) := by decide +kernel
theorem dX12_layLoads_3 : decode cX12_layLoads 3 = .ok (.bipush 6, 2) := by decide +kernel
theorem dX12_layLoads_5 : decode cX12_layLoads 5 = .ok (.if_icmp .ge 16, 3) := by decide +kernel
theorem dX12_layLoads_8 : decode cX12_layLoads 8 = .ok (.aload_n 0, 1) := by decide +kernel
theorem dX12_layLoads_9 : decode cX12_layLoads 9 = .ok (.getfield 50, 3) := by decide +kernel
theorem dX12_layLoads_12 : decode cX12_layLoads 12 = .ok (.iload_n 1, 1) := by decide +kernel
theorem dX12_layLoads_13 : decode cX12_layLoads 13 = .ok (.iconst 0, 1) := by decide +kernel
theorem dX12_layLoads_14 : decode cX12_layLoads 14 = .ok (.iastore, 1) := by decide +kernel
theorem dX12_layLoads_15 : decode cX12_layLoads 15 = .ok (.iinc 1 1, 3) := by decide +kernel
theorem dX12_layLoads_18 : decode cX12_layLoads 18 = .ok (.goto (-16), 3) := by decide +kernel
theorem dX12_layLoads_21 : decode cX12_layLoads 21 = .ok (.iconst 0, 1) := by decide +kernel
theorem dX12_layLoads_22 : decode cX12_layLoads 22 = .ok (.istore_n 1, 1) := by decide +kernel
theorem dX12_layLoads_23 : decode cX12_layLoads 23 = .ok (.iload_n 1, 1) := by decide +kernel
theorem dX12_layLoads_24 : decode cX12_layLoads 24 = .ok (.bipush 8, 2) := by decide +kernel
theorem dX12_layLoads_26 : decode cX12_layLoads 26 = .ok (.if_icmp .ge 16, 3) := by decide +kernel
theorem dX12_layLoads_29 : decode cX12_layLoads 29 = .ok (.aload_n 0, 1) := by decide +kernel
theorem dX12_layLoads_30 : decode cX12_layLoads 30 = .ok (.getfield 53, 3) := by decide +kernel
theorem dX12_layLoads_33 : decode cX12_layLoads 33 = .ok (.iload_n 1, 1) := by decide +kernel
theorem dX12_layLoads_34 : decode cX12_layLoads 34 = .ok (.iconst 0, 1) := by decide +kernel
theorem dX12_layLoads_35 : decode cX12_layLoads 35 = .ok (.iastore, 1) := by decide +kernel
theorem dX12_layLoads_36 : decode cX12_layLoads 36 = .ok (.iinc 1 1, 3) := by decide +kernel
theorem dX12_layLoads_39 : decode cX12_layLoads 39 = .ok (.goto (-16), 3) := by decide +kernel
theorem dX12_layLoads_42 : decode cX12_layLoads 42 = .ok (.iconst 0, 1) := by decide +kernel
theorem dX12_layLoads_43 : decode cX12_layLoads 43 = .ok (.istore_n 1, 1) := by decide +kernel
theorem dX12_layLoads_44 : decode cX12_layLoads 44 = .ok (.iload_n 1, 1) := by decide +kernel
theorem dX12_layLoads_45 : decode cX12_layLoads 45 = .ok (.aload_n 0, 1) := by decide +kernel
theorem dX12_layLoads_46 : decode cX12_layLoads 46 = .ok (.getfield 80, 3) := by decide +kernel
theorem dX12_layLoads_49 : decode cX12_layLoads 49 = .ok (.if_icmp .ge 42, 3) := by decide +kernel
theorem dX12_layLoads_52 : decode cX12_layLoads 52 = .ok (.aload_n 0, 1) := by decide +kernel
theorem dX12_layLoads_53 : decode cX12_layLoads 53 = .ok (.getfield 47, 3) := by decide +kernel
theorem dX12_layLoads_56 : decode cX12_layLoads 56 = .ok (.iload_n 1, 1) := by decide +kernel
theorem dX12_layLoads_57 : decode cX12_layLoads 57 = .ok (.iaload, 1) := by decide +kernel
theorem dX12_layLoads_58 : decode cX12_layLoads 58 = .ok (.bipush (-9), 2) := by decide +kernel
theorem dX12_layLoads_60 : decode cX12_layLoads 60 = .ok (.if_icmp .eq 25, 3) := by decide +kernel
theorem dX12_layLoads_63 : decode cX12_layLoads 63 = .ok (.aload_n 0, 1) := by decide +kernel
theorem dX12_layLoads_64 : decode cX12_layLoads 64 = .ok (.getfield 50, 3) := by decide +kernel
theorem dX12_layLoads_67 : decode cX12_layLoads 67 = .ok (.aload_n 0, 1) := by decide +kernel
theorem dX12_layLoads_68 : decode cX12_layLoads 68 = .ok (.getfield 47, 3) := by decide +kernel
theorem dX12_layLoads_71 : decode cX12_layLoads 71 = .ok (.iload_n 1, 1) := by decide +kernel
theorem dX12_layLoads_72 : decode cX12_layLoads 72 = .ok (.iaload, 1) := by decide +kernel
theorem dX12_layLoads_73 : decode cX12_layLoads 73 = .ok (.dup2, 1) := by decide +kernel
theorem dX12_layLoads_74 : decode cX12_layLoads 74 = .ok (.iaload, 1) := by decide +kernel
theorem dX12_layLoads_75 : decode cX12_layLoads 75 = .ok (.aload_n 0, 1) := by decide +kernel
theorem dX12_layLoads_76 : decode cX12_layLoads 76 = .ok (.getfield 16, 3) := by decide +kernel
theorem dX12_layLoads_79 : decode cX12_layLoads 79 = .ok (.iconst 2, 1) := by decide +kernel
theorem dX12_layLoads_80 : decode cX12_layLoads 80 = .ok (.iload_n 1, 1) := by decide +kernel
theorem dX12_layLoads_81 : decode cX12_layLoads 81 = .ok (.imul, 1) := by decide +kernel
theorem dX12_layLoads_82 : decode cX12_layLoads 82 = .ok (.iaload, 1) := by decide +kernel
theorem dX12_layLoads_83 : decode cX12_layLoads 83 = .ok (.iadd, 1) := by decide +kernel
theorem dX12_layLoads_84 : decode cX12_layLoads 84 = .ok (.iastore, 1) := by decide +kernel
theorem dX12_layLoads_85 : decode cX12_layLoads 85 = .ok (.iinc 1 1, 3) := by decide +kernel
theorem dX12_layLoads_88 : decode cX12_layLoads 88 = .ok (.goto (-44), 3) := by decide +kernel
theorem dX12_layLoads_91 : decode cX12_layLoads 91 = .ok (.iconst 0, 1) := by decide +kernel
theorem dX12_layLoads_92 : decode cX12_layLoads 92 = .ok (.istore_n 1, 1) := by decide +kernel
theorem dX12_layLoads_93 : decode cX12_layLoads 93 = .ok (.iload_n 1, 1) := by decide +kernel
theorem dX12_layLoads_94 : decode cX12_layLoads 94 = .ok (.aload_n 0, 1) := by decide +kernel
theorem dX12_layLoads_95 : decode cX12_layLoads 95 = .ok (.getfield 77, 3) := by decide +kernel
theorem dX12_layLoads_98 : decode cX12_layLoads 98 = .ok (.if_icmp .ge 61, 3) := by decide +kernel
theorem dX12_layLoads_101 : decode cX12_layLoads 101 = .ok (.aload_n 0, 1) := by decide +kernel
theorem dX12_layLoads_102 : decode cX12_layLoads 102 = .ok (.getfield 53, 3) := by decide +kernel
theorem dX12_layLoads_105 : decode cX12_layLoads 105 = .ok (.aload_n 0, 1) := by decide +kernel
theorem dX12_layLoads_106 : decode cX12_layLoads 106 = .ok (.getfield 13, 3) := by decide +kernel
theorem dX12_layLoads_109 : decode cX12_layLoads 109 = .ok (.iconst 3, 1) := by decide +kernel
theorem dX12_layLoads_110 : decode cX12_layLoads 110 = .ok (.iload_n 1, 1) := by decide +kernel
theorem dX12_layLoads_111 : decode cX12_layLoads 111 = .ok (.imul, 1) := by decide +kernel
theorem dX12_layLoads_112 : decode cX12_layLoads 112 = .ok (.iaload, 1) := by decide +kernel
theorem dX12_layLoads_113 : decode cX12_layLoads 113 = .ok (.dup2, 1) := by decide +kernel
theorem dX12_layLoads_114 : decode cX12_layLoads 114 = .ok (.iaload, 1) := by decide +kernel
theorem dX12_layLoads_115 : decode cX12_layLoads 115 = .ok (.aload_n 0, 1) := by decide +kernel
theorem dX12_layLoads_116 : decode cX12_layLoads 116 = .ok (.getfield 50, 3) := by decide +kernel
theorem dX12_layLoads_119 : decode cX12_layLoads 119 = .ok (.iload_n 1, 1) := by decide +kernel
theorem dX12_layLoads_120 : decode cX12_layLoads 120 = .ok (.iaload, 1) := by decide +kernel
theorem dX12_layLoads_121 : decode cX12_layLoads 121 = .ok (.iconst 1, 1) := by decide +kernel
theorem dX12_layLoads_122 : decode cX12_layLoads 122 = .ok (.iadd, 1) := by decide +kernel
theorem dX12_layLoads_123 : decode cX12_layLoads 123 = .ok (.iconst 2, 1) := by decide +kernel
theorem dX12_layLoads_124 : decode cX12_layLoads 124 = .ok (.idiv, 1) := by decide +kernel
theorem dX12_layLoads_125 : decode cX12_layLoads 125 = .ok (.iadd, 1) := by decide +kernel
theorem dX12_layLoads_126 : decode cX12_layLoads 126 = .ok (.iastore, 1) := by decide +kernel
theorem dX12_layLoads_127 : decode cX12_layLoads 127 = .ok (.aload_n 0, 1) := by decide +kernel
theorem dX12_layLoads_128 : decode cX12_layLoads 128 = .ok (.getfield 53, 3) := by decide +kernel
theorem dX12_layLoads_131 : decode cX12_layLoads 131 = .ok (.aload_n 0, 1) := by decide +kernel
theorem dX12_layLoads_132 : decode cX12_layLoads 132 = .ok (.getfield 13, 3) := by decide +kernel
theorem dX12_layLoads_135 : decode cX12_layLoads 135 = .ok (.iconst 3, 1) := by decide +kernel
theorem dX12_layLoads_136 : decode cX12_layLoads 136 = .ok (.iload_n 1, 1) := by decide +kernel
theorem dX12_layLoads_137 : decode cX12_layLoads 137 = .ok (.imul, 1) := by decide +kernel
theorem dX12_layLoads_138 : decode cX12_layLoads 138 = .ok (.iconst 1, 1) := by decide +kernel
theorem dX12_layLoads_139 : decode cX12_layLoads 139 = .ok (.iadd, 1) := by decide +kernel
theorem dX12_layLoads_140 : decode cX12_layLoads 140 = .ok (.iaload, 1) := by decide +kernel
theorem dX12_layLoads_141 : decode cX12_layLoads 141 = .ok (.dup2, 1) := by decide +kernel
theorem dX12_layLoads_142 : decode cX12_layLoads 142 = .ok (.iaload, 1) := by decide +kernel
theorem dX12_layLoads_143 : decode cX12_layLoads 143 = .ok (.aload_n 0, 1) := by decide +kernel
theorem dX12_layLoads_144 : decode cX12_layLoads 144 = .ok (.getfield 50, 3) := by decide +kernel
theorem dX12_layLoads_147 : decode cX12_layLoads 147 = .ok (.iload_n 1, 1) := by decide +kernel
theorem dX12_layLoads_148 : decode cX12_layLoads 148 = .ok (.iaload, 1) := by decide +kernel
theorem dX12_layLoads_149 : decode cX12_layLoads 149 = .ok (.iconst 2, 1) := by decide +kernel
theorem dX12_layLoads_150 : decode cX12_layLoads 150 = .ok (.idiv, 1) := by decide +kernel
theorem dX12_layLoads_151 : decode cX12_layLoads 151 = .ok (.iadd, 1) := by decide +kernel
theorem dX12_layLoads_152 : decode cX12_layLoads 152 = .ok (.iastore, 1) := by decide +kernel
theorem dX12_layLoads_153 : decode cX12_layLoads 153 = .ok (.iinc 1 1, 3) := by decide +kernel
theorem dX12_layLoads_156 : decode cX12_layLoads 156 = .ok (.goto (-63), 3) := by decide +kernel
theorem dX12_layLoads_159 : decode cX12_layLoads 159 = .ok (.return_, 1) := by decide +kernel
theorem dX12_layLoadsNow_0 : decode cX12_layLoadsNow 0 = .ok (.aload_n 0, 1) := by decide +kernel
theorem dX12_layLoadsNow_1 : decode cX12_layLoadsNow 1 = .ok (.invokevirtual 148, 3) := by decide +kernel
theorem dX12_layLoadsNow_4 : decode cX12_layLoadsNow 4 = .ok (.aload_n 0, 1) := by decide +kernel
theorem dX12_layLoadsNow_5 : decode cX12_layLoadsNow 5 = .ok (.invokevirtual 151, 3) := by decide +kernel
theorem dX12_layLoadsNow_8 : decode cX12_layLoadsNow 8 = .ok (.return_, 1) := by decide +kernel
theorem dX12_layEnds_0 : decode cX12_layEnds 0 = .ok (.iconst 0, 1) := by decide +kernel
theorem dX12_layEnds_1 : decode cX12_layEnds 1 = .ok (.istore_n 1, 1) := by decide +kernel
theorem dX12_layEnds_2 : decode cX12_layEnds 2 = .ok (.iload_n 1, 1) := by decide +kernel
theorem dX12_layEnds_3 : decode cX12_layEnds 3 = .ok (.bipush 36, 2) := by decide +kernel
theorem dX12_layEnds_5 : decode cX12_layEnds 5 = .ok (.if_icmp .ge 24, 3) := by decide +kernel
theorem dX12_layEnds_8 : decode cX12_layEnds 8 = .ok (.aload_n 0, 1) := by decide +kernel
theorem dX12_layEnds_9 : decode cX12_layEnds 9 = .ok (.getfield 56, 3) := by decide +kernel
theorem dX12_layEnds_12 : decode cX12_layEnds 12 = .ok (.iload_n 1, 1) := by decide +kernel
theorem dX12_layEnds_13 : decode cX12_layEnds 13 = .ok (.aload_n 0, 1) := by decide +kernel
theorem dX12_layEnds_14 : decode cX12_layEnds 14 = .ok (.getfield 19, 3) := by decide +kernel
theorem dX12_layEnds_17 : decode cX12_layEnds 17 = .ok (.bipush 6, 2) := by decide +kernel
theorem dX12_layEnds_19 : decode cX12_layEnds 19 = .ok (.iload_n 1, 1) := by decide +kernel
theorem dX12_layEnds_20 : decode cX12_layEnds 20 = .ok (.iadd, 1) := by decide +kernel
theorem dX12_layEnds_21 : decode cX12_layEnds 21 = .ok (.iaload, 1) := by decide +kernel
theorem dX12_layEnds_22 : decode cX12_layEnds 22 = .ok (.iastore, 1) := by decide +kernel
theorem dX12_layEnds_23 : decode cX12_layEnds 23 = .ok (.iinc 1 1, 3) := by decide +kernel
theorem dX12_layEnds_26 : decode cX12_layEnds 26 = .ok (.goto (-24), 3) := by decide +kernel
theorem dX12_layEnds_29 : decode cX12_layEnds 29 = .ok (.return_, 1) := by decide +kernel
theorem dX12_firstHeavy_0 : decode cX12_firstHeavy 0 = .ok (.bipush (-9), 2) := by decide +kernel
theorem dX12_firstHeavy_2 : decode cX12_firstHeavy 2 = .ok (.istore_n 1, 1) := by decide +kernel
theorem dX12_firstHeavy_3 : decode cX12_firstHeavy 3 = .ok (.aload_n 0, 1) := by decide +kernel
theorem dX12_firstHeavy_4 : decode cX12_firstHeavy 4 = .ok (.getfield 77, 3) := by decide +kernel
theorem dX12_firstHeavy_7 : decode cX12_firstHeavy 7 = .ok (.iconst 1, 1) := by decide +kernel
theorem dX12_firstHeavy_8 : decode cX12_firstHeavy 8 = .ok (.isub, 1) := by decide +kernel
theorem dX12_firstHeavy_9 : decode cX12_firstHeavy 9 = .ok (.istore_n 2, 1) := by decide +kernel
theorem dX12_firstHeavy_10 : decode cX12_firstHeavy 10 = .ok (.iload_n 2, 1) := by decide +kernel
theorem dX12_firstHeavy_11 : decode cX12_firstHeavy 11 = .ok (.ifCond .lt 34, 3) := by decide +kernel
theorem dX12_firstHeavy_14 : decode cX12_firstHeavy 14 = .ok (.aload_n 0, 1) := by decide +kernel
theorem dX12_firstHeavy_15 : decode cX12_firstHeavy 15 = .ok (.getfield 50, 3) := by decide +kernel
theorem dX12_firstHeavy_18 : decode cX12_firstHeavy 18 = .ok (.iload_n 2, 1) := by decide +kernel
theorem dX12_firstHeavy_19 : decode cX12_firstHeavy 19 = .ok (.iaload, 1) := by decide +kernel
theorem dX12_firstHeavy_20 : decode cX12_firstHeavy 20 = .ok (.aload_n 0, 1) := by decide +kernel
theorem dX12_firstHeavy_21 : decode cX12_firstHeavy 21 = .ok (.getfield 13, 3) := by decide +kernel
theorem dX12_firstHeavy_24 : decode cX12_firstHeavy 24 = .ok (.iconst 3, 1) := by decide +kernel
theorem dX12_firstHeavy_25 : decode cX12_firstHeavy 25 = .ok (.iload_n 2, 1) := by decide +kernel
theorem dX12_firstHeavy_26 : decode cX12_firstHeavy 26 = .ok (.imul, 1) := by decide +kernel
theorem dX12_firstHeavy_27 : decode cX12_firstHeavy 27 = .ok (.iconst 2, 1) := by decide +kernel
theorem dX12_firstHeavy_28 : decode cX12_firstHeavy 28 = .ok (.iadd, 1) := by decide +kernel
theorem dX12_firstHeavy_29 : decode cX12_firstHeavy 29 = .ok (.iaload, 1) := by decide +kernel
theorem dX12_firstHeavy_30 : decode cX12_firstHeavy 30 = .ok (.if_icmp .le 7, 3) := by decide +kernel
theorem dX12_firstHeavy_33 : decode cX12_firstHeavy 33 = .ok (.iload_n 2, 1) := by decide +kernel
theorem dX12_firstHeavy_34 : decode cX12_firstHeavy 34 = .ok (.goto 4, 3) := by decide +kernel
theorem dX12_firstHeavy_37 : decode cX12_firstHeavy 37 = .ok (.iload_n 1, 1) := by decide +kernel
theorem dX12_firstHeavy_38 : decode cX12_firstHeavy 38 = .ok (.istore_n 1, 1) := by decide +kernel
theorem dX12_firstHeavy_39 : decode cX12_firstHeavy 39 = .ok (.iinc 2 (-1), 3) := by decide +kernel
theorem dX12_firstHeavy_42 : decode cX12_firstHeavy 42 = .ok (.goto (-32), 3) := by decide +kernel
theorem dX12_firstHeavy_45 : decode cX12_firstHeavy 45 = .ok (.iload_n 1, 1) := by decide +kernel
theorem dX12_firstHeavy_46 : decode cX12_firstHeavy 46 = .ok (.ireturn, 1) := by decide +kernel
theorem dX12_firstWeak_0 : decode cX12_firstWeak 0 = .ok (.bipush (-9), 2) := by decide +kernel
theorem dX12_firstWeak_2 : decode cX12_firstWeak 2 = .ok (.istore_n 1, 1) := by decide +kernel
theorem dX12_firstWeak_3 : decode cX12_firstWeak 3 = .ok (.aload_n 0, 1) := by decide +kernel
theorem dX12_firstWeak_4 : decode cX12_firstWeak 4 = .ok (.getfield 69, 3) := by decide +kernel
theorem dX12_firstWeak_7 : decode cX12_firstWeak 7 = .ok (.iconst 1, 1) := by decide +kernel
theorem dX12_firstWeak_8 : decode cX12_firstWeak 8 = .ok (.isub, 1) := by decide +kernel
theorem dX12_firstWeak_9 : decode cX12_firstWeak 9 = .ok (.istore_n 2, 1) := by decide +kernel
theorem dX12_firstWeak_10 : decode cX12_firstWeak 10 = .ok (.iload_n 2, 1) := by decide +kernel
theorem dX12_firstWeak_11 : decode cX12_firstWeak 11 = .ok (.ifCond .lt 34, 3) := by decide +kernel
theorem dX12_firstWeak_14 : decode cX12_firstWeak 14 = .ok (.aload_n 0, 1) := by decide +kernel
theorem dX12_firstWeak_15 : decode cX12_firstWeak 15 = .ok (.getfield 53, 3) := by decide +kernel
theorem dX12_firstWeak_18 : decode cX12_firstWeak 18 = .ok (.iload_n 2, 1) := by decide +kernel
theorem dX12_firstWeak_19 : decode cX12_firstWeak 19 = .ok (.iaload, 1) := by decide +kernel
theorem dX12_firstWeak_20 : decode cX12_firstWeak 20 = .ok (.aload_n 0, 1) := by decide +kernel
theorem dX12_firstWeak_21 : decode cX12_firstWeak 21 = .ok (.getfield 7, 3) := by decide +kernel
theorem dX12_firstWeak_24 : decode cX12_firstWeak 24 = .ok (.iconst 3, 1) := by decide +kernel
theorem dX12_firstWeak_25 : decode cX12_firstWeak 25 = .ok (.iload_n 2, 1) := by decide +kernel
theorem dX12_firstWeak_26 : decode cX12_firstWeak 26 = .ok (.imul, 1) := by decide +kernel
theorem dX12_firstWeak_27 : decode cX12_firstWeak 27 = .ok (.iconst 1, 1) := by decide +kernel
theorem dX12_firstWeak_28 : decode cX12_firstWeak 28 = .ok (.iadd, 1) := by decide +kernel
theorem dX12_firstWeak_29 : decode cX12_firstWeak 29 = .ok (.iaload, 1) := by decide +kernel
theorem dX12_firstWeak_30 : decode cX12_firstWeak 30 = .ok (.if_icmp .le 7, 3) := by decide +kernel
theorem dX12_firstWeak_33 : decode cX12_firstWeak 33 = .ok (.iload_n 2, 1) := by decide +kernel
theorem dX12_firstWeak_34 : decode cX12_firstWeak 34 = .ok (.goto 4, 3) := by decide +kernel
theorem dX12_firstWeak_37 : decode cX12_firstWeak 37 = .ok (.iload_n 1, 1) := by decide +kernel
theorem dX12_firstWeak_38 : decode cX12_firstWeak 38 = .ok (.istore_n 1, 1) := by decide +kernel
theorem dX12_firstWeak_39 : decode cX12_firstWeak 39 = .ok (.iinc 2 (-1), 3) := by decide +kernel
theorem dX12_firstWeak_42 : decode cX12_firstWeak 42 = .ok (.goto (-32), 3) := by decide +kernel
theorem dX12_firstWeak_45 : decode cX12_firstWeak 45 = .ok (.iload_n 1, 1) := by decide +kernel
theorem dX12_firstWeak_46 : decode cX12_firstWeak 46 = .ok (.ireturn, 1) := by decide +kernel
theorem dX12_firstLost_0 : decode cX12_firstLost 0 = .ok (.bipush (-9), 2) := by decide +kernel
theorem dX12_firstLost_2 : decode cX12_firstLost 2 = .ok (.istore_n 1, 1) := by decide +kernel
theorem dX12_firstLost_3 : decode cX12_firstLost 3 = .ok (.aload_n 0, 1) := by decide +kernel
theorem dX12_firstLost_4 : decode cX12_firstLost 4 = .ok (.getfield 77, 3) := by decide +kernel
theorem dX12_firstLost_7 : decode cX12_firstLost 7 = .ok (.iconst 1, 1) := by decide +kernel
theorem dX12_firstLost_8 : decode cX12_firstLost 8 = .ok (.isub, 1) := by decide +kernel
theorem dX12_firstLost_9 : decode cX12_firstLost 9 = .ok (.istore_n 2, 1) := by decide +kernel
theorem dX12_firstLost_10 : decode cX12_firstLost 10 = .ok (.iload_n 2, 1) := by decide +kernel
theorem dX12_firstLost_11 : decode cX12_firstLost 11 = .ok (.ifCond .lt 50, 3) := by decide +kernel
theorem dX12_firstLost_14 : decode cX12_firstLost 14 = .ok (.aload_n 0, 1) := by decide +kernel
theorem dX12_firstLost_15 : decode cX12_firstLost 15 = .ok (.getfield 50, 3) := by decide +kernel
theorem dX12_firstLost_18 : decode cX12_firstLost 18 = .ok (.iload_n 2, 1) := by decide +kernel
theorem dX12_firstLost_19 : decode cX12_firstLost 19 = .ok (.iaload, 1) := by decide +kernel
theorem dX12_firstLost_20 : decode cX12_firstLost 20 = .ok (.ifCond .le 33, 3) := by decide +kernel
theorem dX12_firstLost_23 : decode cX12_firstLost 23 = .ok (.aload_n 0, 1) := by decide +kernel
theorem dX12_firstLost_24 : decode cX12_firstLost 24 = .ok (.getfield 56, 3) := by decide +kernel
theorem dX12_firstLost_27 : decode cX12_firstLost 27 = .ok (.bipush 6, 2) := by decide +kernel
theorem dX12_firstLost_29 : decode cX12_firstLost 29 = .ok (.iload_n 2, 1) := by decide +kernel
theorem dX12_firstLost_30 : decode cX12_firstLost 30 = .ok (.imul, 1) := by decide +kernel
theorem dX12_firstLost_31 : decode cX12_firstLost 31 = .ok (.iconst 2, 1) := by decide +kernel
theorem dX12_firstLost_32 : decode cX12_firstLost 32 = .ok (.iadd, 1) := by decide +kernel
theorem dX12_firstLost_33 : decode cX12_firstLost 33 = .ok (.iaload, 1) := by decide +kernel
theorem dX12_firstLost_34 : decode cX12_firstLost 34 = .ok (.aload_n 0, 1) := by decide +kernel
theorem dX12_firstLost_35 : decode cX12_firstLost 35 = .ok (.getfield 56, 3) := by decide +kernel
theorem dX12_firstLost_38 : decode cX12_firstLost 38 = .ok (.bipush 6, 2) := by decide +kernel
theorem dX12_firstLost_40 : decode cX12_firstLost 40 = .ok (.iload_n 2, 1) := by decide +kernel
theorem dX12_firstLost_41 : decode cX12_firstLost 41 = .ok (.imul, 1) := by decide +kernel
theorem dX12_firstLost_42 : decode cX12_firstLost 42 = .ok (.iconst 5, 1) := by decide +kernel
theorem dX12_firstLost_43 : decode cX12_firstLost 43 = .ok (.iadd, 1) := by decide +kernel
theorem dX12_firstLost_44 : decode cX12_firstLost 44 = .ok (.iaload, 1) := by decide +kernel
theorem dX12_firstLost_45 : decode cX12_firstLost 45 = .ok (.iadd, 1) := by decide +kernel
theorem dX12_firstLost_46 : decode cX12_firstLost 46 = .ok (.ifCond .le 7, 3) := by decide +kernel
theorem dX12_firstLost_49 : decode cX12_firstLost 49 = .ok (.iload_n 2, 1) := by decide +kernel
theorem dX12_firstLost_50 : decode cX12_firstLost 50 = .ok (.goto 4, 3) := by decide +kernel
theorem dX12_firstLost_53 : decode cX12_firstLost 53 = .ok (.iload_n 1, 1) := by decide +kernel
theorem dX12_firstLost_54 : decode cX12_firstLost 54 = .ok (.istore_n 1, 1) := by decide +kernel
theorem dX12_firstLost_55 : decode cX12_firstLost 55 = .ok (.iinc 2 (-1), 3) := by decide +kernel
theorem dX12_firstLost_58 : decode cX12_firstLost 58 = .ok (.goto (-48), 3) := by decide +kernel
theorem dX12_firstLost_61 : decode cX12_firstLost 61 = .ok (.iload_n 1, 1) := by decide +kernel
theorem dX12_firstLost_62 : decode cX12_firstLost 62 = .ok (.ireturn, 1) := by decide +kernel
theorem dX12_holdsAll_0 : decode cX12_holdsAll 0 = .ok (.aload_n 0, 1) := by decide +kernel
theorem dX12_holdsAll_1 : decode cX12_holdsAll 1 = .ok (.invokevirtual 154, 3) := by decide +kernel
theorem dX12_holdsAll_4 : decode cX12_holdsAll 4 = .ok (.bipush (-9), 2) := by decide +kernel
theorem dX12_holdsAll_6 : decode cX12_holdsAll 6 = .ok (.if_icmp .ne 25, 3) := by decide +kernel
theorem dX12_holdsAll_9 : decode cX12_holdsAll 9 = .ok (.aload_n 0, 1) := by decide +kernel
theorem dX12_holdsAll_10 : decode cX12_holdsAll 10 = .ok (.invokevirtual 158, 3) := by decide +kernel
theorem dX12_holdsAll_13 : decode cX12_holdsAll 13 = .ok (.bipush (-9), 2) := by decide +kernel
theorem dX12_holdsAll_15 : decode cX12_holdsAll 15 = .ok (.if_icmp .ne 16, 3) := by decide +kernel
theorem dX12_holdsAll_18 : decode cX12_holdsAll 18 = .ok (.aload_n 0, 1) := by decide +kernel
theorem dX12_holdsAll_19 : decode cX12_holdsAll 19 = .ok (.invokevirtual 161, 3) := by decide +kernel
theorem dX12_holdsAll_22 : decode cX12_holdsAll 22 = .ok (.bipush (-9), 2) := by decide +kernel
theorem dX12_holdsAll_24 : decode cX12_holdsAll 24 = .ok (.if_icmp .ne 7, 3) := by decide +kernel
theorem dX12_holdsAll_27 : decode cX12_holdsAll 27 = .ok (.iconst 1, 1) := by decide +kernel
theorem dX12_holdsAll_28 : decode cX12_holdsAll 28 = .ok (.goto 4, 3) := by decide +kernel
theorem dX12_holdsAll_31 : decode cX12_holdsAll 31 = .ok (.iconst 0, 1) := by decide +kernel
theorem dX12_holdsAll_32 : decode cX12_holdsAll 32 = .ok (.ireturn, 1) := by decide +kernel
theorem dX12_outs_0 : decode cX12_outs 0 = .ok (.iconst 0, 1) := by decide +kernel
theorem dX12_outs_1 : decode cX12_outs 1 = .ok (.istore_n 3, 1) := by decide +kernel
theorem dX12_outs_2 : decode cX12_outs 2 = .ok (.iconst 0, 1) := by decide +kernel
theorem dX12_outs_3 : decode cX12_outs 3 = .ok (.istore 4, 2) := by decide +kernel
theorem dX12_outs_5 : decode cX12_outs 5 = .ok (.iload 4, 2) := by decide +kernel
theorem dX12_outs_7 : decode cX12_outs 7 = .ok (.iconst 2, 1) := by decide +kernel
theorem dX12_outs_8 : decode cX12_outs 8 = .ok (.aload_n 0, 1) := by decide +kernel
theorem dX12_outs_9 : decode cX12_outs 9 = .ok (.getfield 77, 3) := by decide +kernel
theorem dX12_outs_12 : decode cX12_outs 12 = .ok (.imul, 1) := by decide +kernel
theorem dX12_outs_13 : decode cX12_outs 13 = .ok (.if_icmp .ge 22, 3) := by decide +kernel
theorem dX12_outs_16 : decode cX12_outs 16 = .ok (.iload_n 3, 1) := by decide +kernel
theorem dX12_outs_17 : decode cX12_outs 17 = .ok (.aload_n 1, 1) := by decide +kernel
theorem dX12_outs_18 : decode cX12_outs 18 = .ok (.iload_n 2, 1) := by decide +kernel
theorem dX12_outs_19 : decode cX12_outs 19 = .ok (.iconst 3, 1) := by decide +kernel
theorem dX12_outs_20 : decode cX12_outs 20 = .ok (.iload 4, 2) := by decide +kernel
theorem dX12_outs_22 : decode cX12_outs 22 = .ok (.imul, 1) := by decide +kernel
theorem dX12_outs_23 : decode cX12_outs 23 = .ok (.iadd, 1) := by decide +kernel
theorem dX12_outs_24 : decode cX12_outs 24 = .ok (.iconst 2, 1) := by decide +kernel
theorem dX12_outs_25 : decode cX12_outs 25 = .ok (.iadd, 1) := by decide +kernel
theorem dX12_outs_26 : decode cX12_outs 26 = .ok (.iaload, 1) := by decide +kernel
theorem dX12_outs_27 : decode cX12_outs 27 = .ok (.iadd, 1) := by decide +kernel
theorem dX12_outs_28 : decode cX12_outs 28 = .ok (.istore_n 3, 1) := by decide +kernel
theorem dX12_outs_29 : decode cX12_outs 29 = .ok (.iinc 4 1, 3) := by decide +kernel
theorem dX12_outs_32 : decode cX12_outs 32 = .ok (.goto (-27), 3) := by decide +kernel
theorem dX12_outs_35 : decode cX12_outs 35 = .ok (.iload_n 3, 1) := by decide +kernel
theorem dX12_outs_36 : decode cX12_outs 36 = .ok (.ireturn, 1) := by decide +kernel
theorem dX12_differ_0 : decode cX12_differ 0 = .ok (.iload_n 1, 1) := by decide +kernel
theorem dX12_differ_1 : decode cX12_differ 1 = .ok (.iconst 2, 1) := by decide +kernel
theorem dX12_differ_2 : decode cX12_differ 2 = .ok (.idiv, 1) := by decide +kernel
theorem dX12_differ_3 : decode cX12_differ 3 = .ok (.istore_n 2, 1) := by decide +kernel
theorem dX12_differ_4 : decode cX12_differ 4 = .ok (.aload_n 0, 1) := by decide +kernel
theorem dX12_differ_5 : decode cX12_differ 5 = .ok (.getfield 7, 3) := by decide +kernel
theorem dX12_differ_8 : decode cX12_differ 8 = .ok (.iconst 3, 1) := by decide +kernel
theorem dX12_differ_9 : decode cX12_differ 9 = .ok (.aload_n 0, 1) := by decide +kernel
theorem dX12_differ_10 : decode cX12_differ 10 = .ok (.getfield 13, 3) := by decide +kernel
theorem dX12_differ_13 : decode cX12_differ 13 = .ok (.iconst 3, 1) := by decide +kernel
theorem dX12_differ_14 : decode cX12_differ 14 = .ok (.iload_n 2, 1) := by decide +kernel
theorem dX12_differ_15 : decode cX12_differ 15 = .ok (.imul, 1) := by decide +kernel
theorem dX12_differ_16 : decode cX12_differ 16 = .ok (.iaload, 1) := by decide +kernel
theorem dX12_differ_17 : decode cX12_differ 17 = .ok (.imul, 1) := by decide +kernel
theorem dX12_differ_18 : decode cX12_differ 18 = .ok (.iconst 2, 1) := by decide +kernel
theorem dX12_differ_19 : decode cX12_differ 19 = .ok (.iadd, 1) := by decide +kernel
theorem dX12_differ_20 : decode cX12_differ 20 = .ok (.iaload, 1) := by decide +kernel
theorem dX12_differ_21 : decode cX12_differ 21 = .ok (.aload_n 0, 1) := by decide +kernel
theorem dX12_differ_22 : decode cX12_differ 22 = .ok (.getfield 7, 3) := by decide +kernel
theorem dX12_differ_25 : decode cX12_differ 25 = .ok (.iconst 3, 1) := by decide +kernel
theorem dX12_differ_26 : decode cX12_differ 26 = .ok (.aload_n 0, 1) := by decide +kernel
theorem dX12_differ_27 : decode cX12_differ 27 = .ok (.getfield 13, 3) := by decide +kernel
theorem dX12_differ_30 : decode cX12_differ 30 = .ok (.iconst 3, 1) := by decide +kernel
theorem dX12_differ_31 : decode cX12_differ 31 = .ok (.iload_n 2, 1) := by decide +kernel
theorem dX12_differ_32 : decode cX12_differ 32 = .ok (.imul, 1) := by decide +kernel
theorem dX12_differ_33 : decode cX12_differ 33 = .ok (.iconst 1, 1) := by decide +kernel
theorem dX12_differ_34 : decode cX12_differ 34 = .ok (.iadd, 1) := by decide +kernel
theorem dX12_differ_35 : decode cX12_differ 35 = .ok (.iaload, 1) := by decide +kernel
theorem dX12_differ_36 : decode cX12_differ 36 = .ok (.imul, 1) := by decide +kernel
theorem dX12_differ_37 : decode cX12_differ 37 = .ok (.iconst 2, 1) := by decide +kernel
theorem dX12_differ_38 : decode cX12_differ 38 = .ok (.iadd, 1) := by decide +kernel
theorem dX12_differ_39 : decode cX12_differ 39 = .ok (.iaload, 1) := by decide +kernel
theorem dX12_differ_40 : decode cX12_differ 40 = .ok (.isub, 1) := by decide +kernel
theorem dX12_differ_41 : decode cX12_differ 41 = .ok (.istore_n 3, 1) := by decide +kernel
theorem dX12_differ_42 : decode cX12_differ 42 = .ok (.iload_n 3, 1) := by decide +kernel
theorem dX12_differ_43 : decode cX12_differ 43 = .ok (.ifCond .ge 8, 3) := by decide +kernel
theorem dX12_differ_46 : decode cX12_differ 46 = .ok (.iload_n 3, 1) := by decide +kernel
theorem dX12_differ_47 : decode cX12_differ 47 = .ok (.ineg, 1) := by decide +kernel
theorem dX12_differ_48 : decode cX12_differ 48 = .ok (.goto 4, 3) := by decide +kernel
theorem dX12_differ_51 : decode cX12_differ 51 = .ok (.iload_n 3, 1) := by decide +kernel
theorem dX12_differ_52 : decode cX12_differ 52 = .ok (.ireturn, 1) := by decide +kernel
theorem dX12_givesAt_0 : decode cX12_givesAt 0 = .ok (.iload_n 0, 1) := by decide +kernel
theorem dX12_givesAt_1 : decode cX12_givesAt 1 = .ok (.iconst 1, 1) := by decide +kernel
theorem dX12_givesAt_2 : decode cX12_givesAt 2 = .ok (.if_icmp .ne 8, 3) := by decide +kernel
theorem dX12_givesAt_5 : decode cX12_givesAt 5 = .ok (.bipush 12, 2) := by decide +kernel
theorem dX12_givesAt_7 : decode cX12_givesAt 7 = .ok (.goto 15, 3) := by decide +kernel
theorem dX12_givesAt_10 : decode cX12_givesAt 10 = .ok (.iload_n 0, 1) := by decide +kernel
theorem dX12_givesAt_11 : decode cX12_givesAt 11 = .ok (.iconst 2, 1) := by decide +kernel
theorem dX12_givesAt_12 : decode cX12_givesAt 12 = .ok (.if_icmp .ne 8, 3) := by decide +kernel
theorem dX12_givesAt_15 : decode cX12_givesAt 15 = .ok (.bipush 20, 2) := by decide +kernel
theorem dX12_givesAt_17 : decode cX12_givesAt 17 = .ok (.goto 5, 3) := by decide +kernel
theorem dX12_givesAt_20 : decode cX12_givesAt 20 = .ok (.bipush 36, 2) := by decide +kernel
theorem dX12_givesAt_22 : decode cX12_givesAt 22 = .ok (.ireturn, 1) := by decide +kernel
theorem dX12_wears_0 : decode cX12_wears 0 = .ok (.iload_n 0, 1) := by decide +kernel
theorem dX12_wears_1 : decode cX12_wears 1 = .ok (.iconst 1, 1) := by decide +kernel
theorem dX12_wears_2 : decode cX12_wears 2 = .ok (.if_icmp .ne 9, 3) := by decide +kernel
theorem dX12_wears_5 : decode cX12_wears 5 = .ok (.iload_n 1, 1) := by decide +kernel
theorem dX12_wears_6 : decode cX12_wears 6 = .ok (.iload_n 2, 1) := by decide +kernel
theorem dX12_wears_7 : decode cX12_wears 7 = .ok (.imul, 1) := by decide +kernel
theorem dX12_wears_8 : decode cX12_wears 8 = .ok (.goto 21, 3) := by decide +kernel
theorem dX12_wears_11 : decode cX12_wears 11 = .ok (.iload_n 0, 1) := by decide +kernel
theorem dX12_wears_12 : decode cX12_wears 12 = .ok (.iconst 2, 1) := by decide +kernel
theorem dX12_wears_13 : decode cX12_wears 13 = .ok (.if_icmp .ne 11, 3) := by decide +kernel
theorem dX12_wears_16 : decode cX12_wears 16 = .ok (.iload_n 1, 1) := by decide +kernel
theorem dX12_wears_17 : decode cX12_wears 17 = .ok (.iload_n 2, 1) := by decide +kernel
theorem dX12_wears_18 : decode cX12_wears 18 = .ok (.imul, 1) := by decide +kernel
theorem dX12_wears_19 : decode cX12_wears 19 = .ok (.iconst 2, 1) := by decide +kernel
theorem dX12_wears_20 : decode cX12_wears 20 = .ok (.idiv, 1) := by decide +kernel
theorem dX12_wears_21 : decode cX12_wears 21 = .ok (.goto 8, 3) := by decide +kernel
theorem dX12_wears_24 : decode cX12_wears 24 = .ok (.iload_n 1, 1) := by decide +kernel
theorem dX12_wears_25 : decode cX12_wears 25 = .ok (.iload_n 2, 1) := by decide +kernel
theorem dX12_wears_26 : decode cX12_wears 26 = .ok (.imul, 1) := by decide +kernel
theorem dX12_wears_27 : decode cX12_wears 27 = .ok (.iconst 3, 1) := by decide +kernel
theorem dX12_wears_28 : decode cX12_wears 28 = .ok (.idiv, 1) := by decide +kernel
theorem dX12_wears_29 : decode cX12_wears 29 = .ok (.ireturn, 1) := by decide +kernel
theorem dX12_blows_0 : decode cX12_blows 0 = .ok (.aload_n 0, 1) := by decide +kernel
theorem dX12_blows_1 : decode cX12_blows 1 = .ok (.iload_n 1, 1) := by decide +kernel
theorem dX12_blows_2 : decode cX12_blows 2 = .ok (.iconst 2, 1) := by decide +kernel
theorem dX12_blows_3 : decode cX12_blows 3 = .ok (.iadd, 1) := by decide +kernel
theorem dX12_blows_4 : decode cX12_blows 4 = .ok (.iaload, 1) := by decide +kernel
theorem dX12_blows_5 : decode cX12_blows 5 = .ok (.ifCond .ne 68, 3) := by decide +kernel
theorem dX12_blows_8 : decode cX12_blows 8 = .ok (.aload_n 0, 1) := by decide +kernel
theorem dX12_blows_9 : decode cX12_blows 9 = .ok (.iload_n 1, 1) := by decide +kernel
theorem dX12_blows_10 : decode cX12_blows 10 = .ok (.iaload, 1) := by decide +kernel
theorem dX12_blows_11 : decode cX12_blows 11 = .ok (.ifCond .ne 22, 3) := by decide +kernel
theorem dX12_blows_14 : decode cX12_blows 14 = .ok (.aload_n 0, 1) := by decide +kernel
theorem dX12_blows_15 : decode cX12_blows 15 = .ok (.iload_n 1, 1) := by decide +kernel
theorem dX12_blows_16 : decode cX12_blows 16 = .ok (.iconst 2, 1) := by decide +kernel
theorem dX12_blows_17 : decode cX12_blows 17 = .ok (.iadd, 1) := by decide +kernel
theorem dX12_blows_18 : decode cX12_blows 18 = .ok (.iload_n 3, 1) := by decide +kernel
theorem dX12_blows_19 : decode cX12_blows 19 = .ok (.bipush 6, 2) := by decide +kernel
theorem dX12_blows_21 : decode cX12_blows 21 = .ok (.if_icmp .le 7, 3) := by decide +kernel
theorem dX12_blows_24 : decode cX12_blows 24 = .ok (.iconst 1, 1) := by decide +kernel
theorem dX12_blows_25 : decode cX12_blows 25 = .ok (.goto 4, 3) := by decide +kernel
theorem dX12_blows_28 : decode cX12_blows 28 = .ok (.iconst 0, 1) := by decide +kernel
theorem dX12_blows_29 : decode cX12_blows 29 = .ok (.iastore, 1) := by decide +kernel
theorem dX12_blows_30 : decode cX12_blows 30 = .ok (.goto 43, 3) := by decide +kernel
theorem dX12_blows_33 : decode cX12_blows 33 = .ok (.aload_n 0, 1) := by decide +kernel
theorem dX12_blows_34 : decode cX12_blows 34 = .ok (.iload_n 1, 1) := by decide +kernel
theorem dX12_blows_35 : decode cX12_blows 35 = .ok (.iconst 1, 1) := by decide +kernel
theorem dX12_blows_36 : decode cX12_blows 36 = .ok (.iadd, 1) := by decide +kernel
theorem dX12_blows_37 : decode cX12_blows 37 = .ok (.dup2, 1) := by decide +kernel
theorem dX12_blows_38 : decode cX12_blows 38 = .ok (.iaload, 1) := by decide +kernel
theorem dX12_blows_39 : decode cX12_blows 39 = .ok (.aload_n 0, 1) := by decide +kernel
theorem dX12_blows_40 : decode cX12_blows 40 = .ok (.iload_n 1, 1) := by decide +kernel
theorem dX12_blows_41 : decode cX12_blows 41 = .ok (.iaload, 1) := by decide +kernel
theorem dX12_blows_42 : decode cX12_blows 42 = .ok (.iload_n 2, 1) := by decide +kernel
theorem dX12_blows_43 : decode cX12_blows 43 = .ok (.iload_n 3, 1) := by decide +kernel
theorem dX12_blows_44 : decode cX12_blows 44 = .ok (.invokestatic 164, 3) := by decide +kernel
theorem dX12_blows_47 : decode cX12_blows 47 = .ok (.iadd, 1) := by decide +kernel
theorem dX12_blows_48 : decode cX12_blows 48 = .ok (.iastore, 1) := by decide +kernel
theorem dX12_blows_49 : decode cX12_blows 49 = .ok (.aload_n 0, 1) := by decide +kernel
theorem dX12_blows_50 : decode cX12_blows 50 = .ok (.iload_n 1, 1) := by decide +kernel
theorem dX12_blows_51 : decode cX12_blows 51 = .ok (.iconst 2, 1) := by decide +kernel
theorem dX12_blows_52 : decode cX12_blows 52 = .ok (.iadd, 1) := by decide +kernel
theorem dX12_blows_53 : decode cX12_blows 53 = .ok (.aload_n 0, 1) := by decide +kernel
theorem dX12_blows_54 : decode cX12_blows 54 = .ok (.iload_n 1, 1) := by decide +kernel
theorem dX12_blows_55 : decode cX12_blows 55 = .ok (.iconst 1, 1) := by decide +kernel
theorem dX12_blows_56 : decode cX12_blows 56 = .ok (.iadd, 1) := by decide +kernel
theorem dX12_blows_57 : decode cX12_blows 57 = .ok (.iaload, 1) := by decide +kernel
theorem dX12_blows_58 : decode cX12_blows 58 = .ok (.aload_n 0, 1) := by decide +kernel
theorem dX12_blows_59 : decode cX12_blows 59 = .ok (.iload_n 1, 1) := by decide +kernel
theorem dX12_blows_60 : decode cX12_blows 60 = .ok (.iaload, 1) := by decide +kernel
theorem dX12_blows_61 : decode cX12_blows 61 = .ok (.invokestatic 168, 3) := by decide +kernel
theorem dX12_blows_64 : decode cX12_blows 64 = .ok (.if_icmp .lt 7, 3) := by decide +kernel
theorem dX12_blows_67 : decode cX12_blows 67 = .ok (.iconst 1, 1) := by decide +kernel
theorem dX12_blows_68 : decode cX12_blows 68 = .ok (.goto 4, 3) := by decide +kernel
theorem dX12_blows_71 : decode cX12_blows 71 = .ok (.iconst 0, 1) := by decide +kernel
theorem dX12_blows_72 : decode cX12_blows 72 = .ok (.iastore, 1) := by decide +kernel
theorem dX12_blows_73 : decode cX12_blows 73 = .ok (.return_, 1) := by decide +kernel
theorem dX12_blowsAll_0 : decode cX12_blowsAll 0 = .ok (.iconst 0, 1) := by decide +kernel
theorem dX12_blowsAll_1 : decode cX12_blowsAll 1 = .ok (.istore 4, 2) := by decide +kernel
theorem dX12_blowsAll_3 : decode cX12_blowsAll 3 = .ok (.iload 4, 2) := by decide +kernel
theorem dX12_blowsAll_5 : decode cX12_blowsAll 5 = .ok (.iconst 2, 1) := by decide +kernel
theorem dX12_blowsAll_6 : decode cX12_blowsAll 6 = .ok (.aload_n 0, 1) := by decide +kernel
theorem dX12_blowsAll_7 : decode cX12_blowsAll 7 = .ok (.getfield 77, 3) := by decide +kernel
theorem dX12_blowsAll_10 : decode cX12_blowsAll 10 = .ok (.imul, 1) := by decide +kernel
theorem dX12_blowsAll_11 : decode cX12_blowsAll 11 = .ok (.if_icmp .ge 26, 3) := by decide +kernel
theorem dX12_blowsAll_14 : decode cX12_blowsAll 14 = .ok (.aload_n 1, 1) := by decide +kernel
theorem dX12_blowsAll_15 : decode cX12_blowsAll 15 = .ok (.iload_n 2, 1) := by decide +kernel
theorem dX12_blowsAll_16 : decode cX12_blowsAll 16 = .ok (.iconst 3, 1) := by decide +kernel
theorem dX12_blowsAll_17 : decode cX12_blowsAll 17 = .ok (.iload 4, 2) := by decide +kernel
theorem dX12_blowsAll_19 : decode cX12_blowsAll 19 = .ok (.imul, 1) := by decide +kernel
theorem dX12_blowsAll_20 : decode cX12_blowsAll 20 = .ok (.iadd, 1) := by decide +kernel
theorem dX12_blowsAll_21 : decode cX12_blowsAll 21 = .ok (.aload_n 0, 1) := by decide +kernel
theorem dX12_blowsAll_22 : decode cX12_blowsAll 22 = .ok (.iload 4, 2) := by decide +kernel
theorem dX12_blowsAll_24 : decode cX12_blowsAll 24 = .ok (.invokevirtual 171, 3) := by decide +kernel
theorem dX12_blowsAll_27 : decode cX12_blowsAll 27 = .ok (.iload_n 3, 1) := by decide +kernel
theorem dX12_blowsAll_28 : decode cX12_blowsAll 28 = .ok (.invokestatic 174, 3) := by decide +kernel
theorem dX12_blowsAll_31 : decode cX12_blowsAll 31 = .ok (.iinc 4 1, 3) := by decide +kernel
theorem dX12_blowsAll_34 : decode cX12_blowsAll 34 = .ok (.goto (-31), 3) := by decide +kernel
theorem dX12_blowsAll_37 : decode cX12_blowsAll 37 = .ok (.return_, 1) := by decide +kernel
theorem dX12_bough_0 : decode cX12_bough 0 = .ok (.aload_n 0, 1) := by decide +kernel
theorem dX12_bough_1 : decode cX12_bough 1 = .ok (.iload_n 1, 1) := by decide +kernel
theorem dX12_bough_2 : decode cX12_bough 2 = .ok (.invokevirtual 178, 3) := by decide +kernel
theorem dX12_bough_5 : decode cX12_bough 5 = .ok (.ifCond .eq 12, 3) := by decide +kernel
theorem dX12_bough_8 : decode cX12_bough 8 = .ok (.iload_n 2, 1) := by decide +kernel
theorem dX12_bough_9 : decode cX12_bough 9 = .ok (.iconst 0, 1) := by decide +kernel
theorem dX12_bough_10 : decode cX12_bough 10 = .ok (.iconst 3, 1) := by decide +kernel
theorem dX12_bough_11 : decode cX12_bough 11 = .ok (.invokestatic 73, 3) := by decide +kernel
theorem dX12_bough_14 : decode cX12_bough 14 = .ok (.ifCond .ne 5, 3) := by decide +kernel
theorem dX12_bough_17 : decode cX12_bough 17 = .ok (.iconst (-1), 1) := by decide +kernel
theorem dX12_bough_18 : decode cX12_bough 18 = .ok (.ireturn, 1) := by decide +kernel
theorem dX12_bough_19 : decode cX12_bough 19 = .ok (.aload_n 0, 1) := by decide +kernel
theorem dX12_bough_20 : decode cX12_bough 20 = .ok (.invokevirtual 182, 3) := by decide +kernel
theorem dX12_bough_23 : decode cX12_bough 23 = .ok (.iload_n 2, 1) := by decide +kernel
theorem dX12_bough_24 : decode cX12_bough 24 = .ok (.iconst 3, 1) := by decide +kernel
theorem dX12_bough_25 : decode cX12_bough 25 = .ok (.if_icmp .ne 12, 3) := by decide +kernel
theorem dX12_bough_28 : decode cX12_bough 28 = .ok (.aload_n 0, 1) := by decide +kernel
theorem dX12_bough_29 : decode cX12_bough 29 = .ok (.getfield 53, 3) := by decide +kernel
theorem dX12_bough_32 : decode cX12_bough 32 = .ok (.iload_n 1, 1) := by decide +kernel
theorem dX12_bough_33 : decode cX12_bough 33 = .ok (.iaload, 1) := by decide +kernel
theorem dX12_bough_34 : decode cX12_bough 34 = .ok (.goto 13, 3) := by decide +kernel
theorem dX12_bough_37 : decode cX12_bough 37 = .ok (.aload_n 0, 1) := by decide +kernel
theorem dX12_bough_38 : decode cX12_bough 38 = .ok (.getfield 7, 3) := by decide +kernel
theorem dX12_bough_41 : decode cX12_bough 41 = .ok (.iconst 3, 1) := by decide +kernel
theorem dX12_bough_42 : decode cX12_bough 42 = .ok (.iload_n 1, 1) := by decide +kernel
theorem dX12_bough_43 : decode cX12_bough 43 = .ok (.imul, 1) := by decide +kernel
theorem dX12_bough_44 : decode cX12_bough 44 = .ok (.iload_n 2, 1) := by decide +kernel
theorem dX12_bough_45 : decode cX12_bough 45 = .ok (.iadd, 1) := by decide +kernel
theorem dX12_bough_46 : decode cX12_bough 46 = .ok (.iaload, 1) := by decide +kernel
theorem dX12_bough_47 : decode cX12_bough 47 = .ok (.ireturn, 1) := by decide +kernel
theorem dX12_plank_0 : decode cX12_plank 0 = .ok (.aload_n 0, 1) := by decide +kernel
theorem dX12_plank_1 : decode cX12_plank 1 = .ok (.iload_n 1, 1) := by decide +kernel
theorem dX12_plank_2 : decode cX12_plank 2 = .ok (.invokevirtual 185, 3) := by decide +kernel
theorem dX12_plank_5 : decode cX12_plank 5 = .ok (.ifCond .eq 12, 3) := by decide +kernel
theorem dX12_plank_8 : decode cX12_plank 8 = .ok (.iload_n 2, 1) := by decide +kernel
theorem dX12_plank_9 : decode cX12_plank 9 = .ok (.iconst 0, 1) := by decide +kernel
theorem dX12_plank_10 : decode cX12_plank 10 = .ok (.iconst 3, 1) := by decide +kernel
theorem dX12_plank_11 : decode cX12_plank 11 = .ok (.invokestatic 73, 3) := by decide +kernel
theorem dX12_plank_14 : decode cX12_plank 14 = .ok (.ifCond .ne 5, 3) := by decide +kernel
theorem dX12_plank_17 : decode cX12_plank 17 = .ok (.iconst (-1), 1) := by decide +kernel
theorem dX12_plank_18 : decode cX12_plank 18 = .ok (.ireturn, 1) := by decide +kernel
theorem dX12_plank_19 : decode cX12_plank 19 = .ok (.aload_n 0, 1) := by decide +kernel
theorem dX12_plank_20 : decode cX12_plank 20 = .ok (.invokevirtual 182, 3) := by decide +kernel
theorem dX12_plank_23 : decode cX12_plank 23 = .ok (.iload_n 2, 1) := by decide +kernel
theorem dX12_plank_24 : decode cX12_plank 24 = .ok (.iconst 3, 1) := by decide +kernel
theorem dX12_plank_25 : decode cX12_plank 25 = .ok (.if_icmp .ne 12, 3) := by decide +kernel
theorem dX12_plank_28 : decode cX12_plank 28 = .ok (.aload_n 0, 1) := by decide +kernel
theorem dX12_plank_29 : decode cX12_plank 29 = .ok (.getfield 50, 3) := by decide +kernel
theorem dX12_plank_32 : decode cX12_plank 32 = .ok (.iload_n 1, 1) := by decide +kernel
theorem dX12_plank_33 : decode cX12_plank 33 = .ok (.iaload, 1) := by decide +kernel
theorem dX12_plank_34 : decode cX12_plank 34 = .ok (.goto 13, 3) := by decide +kernel
theorem dX12_plank_37 : decode cX12_plank 37 = .ok (.aload_n 0, 1) := by decide +kernel
theorem dX12_plank_38 : decode cX12_plank 38 = .ok (.getfield 13, 3) := by decide +kernel
theorem dX12_plank_41 : decode cX12_plank 41 = .ok (.iconst 3, 1) := by decide +kernel
theorem dX12_plank_42 : decode cX12_plank 42 = .ok (.iload_n 1, 1) := by decide +kernel
theorem dX12_plank_43 : decode cX12_plank 43 = .ok (.imul, 1) := by decide +kernel
theorem dX12_plank_44 : decode cX12_plank 44 = .ok (.iload_n 2, 1) := by decide +kernel
theorem dX12_plank_45 : decode cX12_plank 45 = .ok (.iadd, 1) := by decide +kernel
theorem dX12_plank_46 : decode cX12_plank 46 = .ok (.iaload, 1) := by decide +kernel
theorem dX12_plank_47 : decode cX12_plank 47 = .ok (.ireturn, 1) := by decide +kernel
theorem dX12_endAt_0 : decode cX12_endAt 0 = .ok (.bipush 6, 2) := by decide +kernel
theorem dX12_endAt_2 : decode cX12_endAt 2 = .ok (.bipush 6, 2) := by decide +kernel
theorem dX12_endAt_4 : decode cX12_endAt 4 = .ok (.iload_n 0, 1) := by decide +kernel
theorem dX12_endAt_5 : decode cX12_endAt 5 = .ok (.imul, 1) := by decide +kernel
theorem dX12_endAt_6 : decode cX12_endAt 6 = .ok (.iadd, 1) := by decide +kernel
theorem dX12_endAt_7 : decode cX12_endAt 7 = .ok (.iconst 3, 1) := by decide +kernel
theorem dX12_endAt_8 : decode cX12_endAt 8 = .ok (.iload_n 1, 1) := by decide +kernel
theorem dX12_endAt_9 : decode cX12_endAt 9 = .ok (.imul, 1) := by decide +kernel
theorem dX12_endAt_10 : decode cX12_endAt 10 = .ok (.iadd, 1) := by decide +kernel
theorem dX12_endAt_11 : decode cX12_endAt 11 = .ok (.ireturn, 1) := by decide +kernel
theorem dX12_end_0 : decode cX12_end 0 = .ok (.aload_n 0, 1) := by decide +kernel
theorem dX12_end_1 : decode cX12_end 1 = .ok (.iload_n 1, 1) := by decide +kernel
theorem dX12_end_2 : decode cX12_end 2 = .ok (.invokevirtual 185, 3) := by decide +kernel
theorem dX12_end_5 : decode cX12_end 5 = .ok (.ifCond .eq 36, 3) := by decide +kernel
theorem dX12_end_8 : decode cX12_end 8 = .ok (.iload_n 2, 1) := by decide +kernel
theorem dX12_end_9 : decode cX12_end 9 = .ok (.iconst 0, 1) := by decide +kernel
theorem dX12_end_10 : decode cX12_end 10 = .ok (.iconst 1, 1) := by decide +kernel
theorem dX12_end_11 : decode cX12_end 11 = .ok (.invokestatic 73, 3) := by decide +kernel
theorem dX12_end_14 : decode cX12_end 14 = .ok (.ifCond .eq 27, 3) := by decide +kernel
theorem dX12_end_17 : decode cX12_end 17 = .ok (.iload_n 3, 1) := by decide +kernel
theorem dX12_end_18 : decode cX12_end 18 = .ok (.iconst 0, 1) := by decide +kernel
theorem dX12_end_19 : decode cX12_end 19 = .ok (.iconst 2, 1) := by decide +kernel
theorem dX12_end_20 : decode cX12_end 20 = .ok (.invokestatic 73, 3) := by decide +kernel
theorem dX12_end_23 : decode cX12_end 23 = .ok (.ifCond .eq 18, 3) := by decide +kernel
theorem dX12_end_26 : decode cX12_end 26 = .ok (.aload_n 0, 1) := by decide +kernel
theorem dX12_end_27 : decode cX12_end 27 = .ok (.getfield 19, 3) := by decide +kernel
theorem dX12_end_30 : decode cX12_end 30 = .ok (.iload_n 1, 1) := by decide +kernel
theorem dX12_end_31 : decode cX12_end 31 = .ok (.iload_n 2, 1) := by decide +kernel
theorem dX12_end_32 : decode cX12_end 32 = .ok (.invokestatic 188, 3) := by decide +kernel
theorem dX12_end_35 : decode cX12_end 35 = .ok (.iload_n 3, 1) := by decide +kernel
theorem dX12_end_36 : decode cX12_end 36 = .ok (.iadd, 1) := by decide +kernel
theorem dX12_end_37 : decode cX12_end 37 = .ok (.iaload, 1) := by decide +kernel
theorem dX12_end_38 : decode cX12_end 38 = .ok (.goto 4, 3) := by decide +kernel
theorem dX12_end_41 : decode cX12_end 41 = .ok (.iconst (-1), 1) := by decide +kernel
theorem dX12_end_42 : decode cX12_end 42 = .ok (.ireturn, 1) := by decide +kernel
theorem dX12_child_0 : decode cX12_child 0 = .ok (.aload_n 0, 1) := by decide +kernel
theorem dX12_child_1 : decode cX12_child 1 = .ok (.iload_n 1, 1) := by decide +kernel
theorem dX12_child_2 : decode cX12_child 2 = .ok (.invokevirtual 192, 3) := by decide +kernel
theorem dX12_child_5 : decode cX12_child 5 = .ok (.ifCond .eq 12, 3) := by decide +kernel
theorem dX12_child_8 : decode cX12_child 8 = .ok (.iload_n 2, 1) := by decide +kernel
theorem dX12_child_9 : decode cX12_child 9 = .ok (.iconst 0, 1) := by decide +kernel
theorem dX12_child_10 : decode cX12_child 10 = .ok (.iconst 2, 1) := by decide +kernel
theorem dX12_child_11 : decode cX12_child 11 = .ok (.invokestatic 73, 3) := by decide +kernel
theorem dX12_child_14 : decode cX12_child 14 = .ok (.ifCond .ne 5, 3) := by decide +kernel
theorem dX12_child_17 : decode cX12_child 17 = .ok (.iconst (-1), 1) := by decide +kernel
theorem dX12_child_18 : decode cX12_child 18 = .ok (.ireturn, 1) := by decide +kernel
theorem dX12_child_19 : decode cX12_child 19 = .ok (.iload_n 2, 1) := by decide +kernel
theorem dX12_child_20 : decode cX12_child 20 = .ok (.iconst 2, 1) := by decide +kernel
theorem dX12_child_21 : decode cX12_child 21 = .ok (.if_icmp .ne 14, 3) := by decide +kernel
theorem dX12_child_24 : decode cX12_child 24 = .ok (.aload_n 0, 1) := by decide +kernel
theorem dX12_child_25 : decode cX12_child 25 = .ok (.getfield 19, 3) := by decide +kernel
theorem dX12_child_28 : decode cX12_child 28 = .ok (.iconst 1, 1) := by decide +kernel
theorem dX12_child_29 : decode cX12_child 29 = .ok (.iload_n 1, 1) := by decide +kernel
theorem dX12_child_30 : decode cX12_child 30 = .ok (.iadd, 1) := by decide +kernel
theorem dX12_child_31 : decode cX12_child 31 = .ok (.iaload, 1) := by decide +kernel
theorem dX12_child_32 : decode cX12_child 32 = .ok (.goto 13, 3) := by decide +kernel
theorem dX12_child_35 : decode cX12_child 35 = .ok (.aload_n 0, 1) := by decide +kernel
theorem dX12_child_36 : decode cX12_child 36 = .ok (.getfield 16, 3) := by decide +kernel
theorem dX12_child_39 : decode cX12_child 39 = .ok (.iconst 2, 1) := by decide +kernel
theorem dX12_child_40 : decode cX12_child 40 = .ok (.iload_n 1, 1) := by decide +kernel
theorem dX12_child_41 : decode cX12_child 41 = .ok (.imul, 1) := by decide +kernel
theorem dX12_child_42 : decode cX12_child 42 = .ok (.iload_n 2, 1) := by decide +kernel
theorem dX12_child_43 : decode cX12_child 43 = .ok (.iadd, 1) := by decide +kernel
theorem dX12_child_44 : decode cX12_child 44 = .ok (.iaload, 1) := by decide +kernel
theorem dX12_child_45 : decode cX12_child 45 = .ok (.ireturn, 1) := by decide +kernel
theorem dX12_now_0 : decode cX12_now 0 = .ok (.iload_n 1, 1) := by decide +kernel
theorem dX12_now_1 : decode cX12_now 1 = .ok (.iconst 0, 1) := by decide +kernel
theorem dX12_now_2 : decode cX12_now 2 = .ok (.iconst 5, 1) := by decide +kernel
theorem dX12_now_3 : decode cX12_now 3 = .ok (.invokestatic 73, 3) := by decide +kernel
theorem dX12_now_6 : decode cX12_now 6 = .ok (.ifCond .ne 5, 3) := by decide +kernel
theorem dX12_now_9 : decode cX12_now 9 = .ok (.iconst (-1), 1) := by decide +kernel
theorem dX12_now_10 : decode cX12_now 10 = .ok (.ireturn, 1) := by decide +kernel
theorem dX12_now_11 : decode cX12_now 11 = .ok (.aload_n 0, 1) := by decide +kernel
theorem dX12_now_12 : decode cX12_now 12 = .ok (.invokevirtual 182, 3) := by decide +kernel
theorem dX12_now_15 : decode cX12_now 15 = .ok (.aload_n 0, 1) := by decide +kernel
theorem dX12_now_16 : decode cX12_now 16 = .ok (.invokevirtual 195, 3) := by decide +kernel
theorem dX12_now_19 : decode cX12_now 19 = .ok (.iload_n 1, 1) := by decide +kernel
theorem dX12_now_20 : decode cX12_now 20 = .ok (.tableswitch 71 0 4 #[36, 49, 54, 59, 64], 36) := by decide +kernel
theorem dX12_now_56 : decode cX12_now 56 = .ok (.aload_n 0, 1) := by decide +kernel
theorem dX12_now_57 : decode cX12_now 57 = .ok (.invokevirtual 198, 3) := by decide +kernel
theorem dX12_now_60 : decode cX12_now 60 = .ok (.ifCond .eq 7, 3) := by decide +kernel
theorem dX12_now_63 : decode cX12_now 63 = .ok (.iconst 1, 1) := by decide +kernel
theorem dX12_now_64 : decode cX12_now 64 = .ok (.goto 4, 3) := by decide +kernel
theorem dX12_now_67 : decode cX12_now 67 = .ok (.iconst 0, 1) := by decide +kernel
theorem dX12_now_68 : decode cX12_now 68 = .ok (.ireturn, 1) := by decide +kernel
theorem dX12_now_69 : decode cX12_now 69 = .ok (.aload_n 0, 1) := by decide +kernel
theorem dX12_now_70 : decode cX12_now 70 = .ok (.invokevirtual 154, 3) := by decide +kernel
theorem dX12_now_73 : decode cX12_now 73 = .ok (.ireturn, 1) := by decide +kernel
theorem dX12_now_74 : decode cX12_now 74 = .ok (.aload_n 0, 1) := by decide +kernel
theorem dX12_now_75 : decode cX12_now 75 = .ok (.invokevirtual 158, 3) := by decide +kernel
theorem dX12_now_78 : decode cX12_now 78 = .ok (.ireturn, 1) := by decide +kernel
theorem dX12_now_79 : decode cX12_now 79 = .ok (.aload_n 0, 1) := by decide +kernel
theorem dX12_now_80 : decode cX12_now 80 = .ok (.invokevirtual 161, 3) := by decide +kernel
theorem dX12_now_83 : decode cX12_now 83 = .ok (.ireturn, 1) := by decide +kernel
theorem dX12_now_84 : decode cX12_now 84 = .ok (.aload_n 0, 1) := by decide +kernel
theorem dX12_now_85 : decode cX12_now 85 = .ok (.getfield 19, 3) := by decide +kernel
theorem dX12_now_88 : decode cX12_now 88 = .ok (.iconst 0, 1) := by decide +kernel
theorem dX12_now_89 : decode cX12_now 89 = .ok (.iaload, 1) := by decide +kernel
theorem dX12_now_90 : decode cX12_now 90 = .ok (.ireturn, 1) := by decide +kernel
theorem dX12_now_91 : decode cX12_now 91 = .ok (.aload_n 0, 1) := by decide +kernel
theorem dX12_now_92 : decode cX12_now 92 = .ok (.getfield 142, 3) := by decide +kernel
theorem dX12_now_95 : decode cX12_now 95 = .ok (.ireturn, 1) := by decide +kernel
theorem dX12_remembers_0 : decode cX12_remembers 0 = .ok (.aload_n 0, 1) := by decide +kernel
theorem dX12_remembers_1 : decode cX12_remembers 1 = .ok (.getfield 142, 3) := by decide +kernel
theorem dX12_remembers_4 : decode cX12_remembers 4 = .ok (.bipush 10, 2) := by decide +kernel
theorem dX12_remembers_6 : decode cX12_remembers 6 = .ok (.if_icmp .ne 43, 3) := by decide +kernel
theorem dX12_remembers_9 : decode cX12_remembers 9 = .ok (.iconst 0, 1) := by decide +kernel
theorem dX12_remembers_10 : decode cX12_remembers 10 = .ok (.istore_n 1, 1) := by decide +kernel
theorem dX12_remembers_11 : decode cX12_remembers 11 = .ok (.iload_n 1, 1) := by decide +kernel
theorem dX12_remembers_12 : decode cX12_remembers 12 = .ok (.sipush 378, 3) := by decide +kernel
theorem dX12_remembers_15 : decode cX12_remembers 15 = .ok (.if_icmp .ge 24, 3) := by decide +kernel
theorem dX12_remembers_18 : decode cX12_remembers 18 = .ok (.aload_n 0, 1) := by decide +kernel
theorem dX12_remembers_19 : decode cX12_remembers 19 = .ok (.getfield 22, 3) := by decide +kernel
theorem dX12_remembers_22 : decode cX12_remembers 22 = .ok (.iload_n 1, 1) := by decide +kernel
theorem dX12_remembers_23 : decode cX12_remembers 23 = .ok (.aload_n 0, 1) := by decide +kernel
theorem dX12_remembers_24 : decode cX12_remembers 24 = .ok (.getfield 22, 3) := by decide +kernel
theorem dX12_remembers_27 : decode cX12_remembers 27 = .ok (.iload_n 1, 1) := by decide +kernel
theorem dX12_remembers_28 : decode cX12_remembers 28 = .ok (.bipush 42, 2) := by decide +kernel
theorem dX12_remembers_30 : decode cX12_remembers 30 = .ok (.iadd, 1) := by decide +kernel
theorem dX12_remembers_31 : decode cX12_remembers 31 = .ok (.iaload, 1) := by decide +kernel
theorem dX12_remembers_32 : decode cX12_remembers 32 = .ok (.iastore, 1) := by decide +kernel
theorem dX12_remembers_33 : decode cX12_remembers 33 = .ok (.iinc 1 1, 3) := by decide +kernel
theorem dX12_remembers_36 : decode cX12_remembers 36 = .ok (.goto (-25), 3) := by decide +kernel
theorem dX12_remembers_39 : decode cX12_remembers 39 = .ok (.aload_n 0, 1) := by decide +kernel
theorem dX12_remembers_40 : decode cX12_remembers 40 = .ok (.dup, 1) := by decide +kernel
theorem dX12_remembers_41 : decode cX12_remembers 41 = .ok (.getfield 142, 3) := by decide +kernel
theorem dX12_remembers_44 : decode cX12_remembers 44 = .ok (.iconst 1, 1) := by decide +kernel
theorem dX12_remembers_45 : decode cX12_remembers 45 = .ok (.isub, 1) := by decide +kernel
theorem dX12_remembers_46 : decode cX12_remembers 46 = .ok (.putfield 142, 3) := by decide +kernel
theorem dX12_remembers_49 : decode cX12_remembers 49 = .ok (.iconst 0, 1) := by decide +kernel
theorem dX12_remembers_50 : decode cX12_remembers 50 = .ok (.istore_n 1, 1) := by decide +kernel
theorem dX12_remembers_51 : decode cX12_remembers 51 = .ok (.iload_n 1, 1) := by decide +kernel
theorem dX12_remembers_52 : decode cX12_remembers 52 = .ok (.bipush 42, 2) := by decide +kernel
theorem dX12_remembers_54 : decode cX12_remembers 54 = .ok (.if_icmp .ge 29, 3) := by decide +kernel
theorem dX12_remembers_57 : decode cX12_remembers 57 = .ok (.aload_n 0, 1) := by decide +kernel
theorem dX12_remembers_58 : decode cX12_remembers 58 = .ok (.getfield 22, 3) := by decide +kernel
theorem dX12_remembers_61 : decode cX12_remembers 61 = .ok (.bipush 42, 2) := by decide +kernel
theorem dX12_remembers_63 : decode cX12_remembers 63 = .ok (.aload_n 0, 1) := by decide +kernel
theorem dX12_remembers_64 : decode cX12_remembers 64 = .ok (.getfield 142, 3) := by decide +kernel
theorem dX12_remembers_67 : decode cX12_remembers 67 = .ok (.imul, 1) := by decide +kernel
theorem dX12_remembers_68 : decode cX12_remembers 68 = .ok (.iload_n 1, 1) := by decide +kernel
theorem dX12_remembers_69 : decode cX12_remembers 69 = .ok (.iadd, 1) := by decide +kernel
theorem dX12_remembers_70 : decode cX12_remembers 70 = .ok (.aload_n 0, 1) := by decide +kernel
theorem dX12_remembers_71 : decode cX12_remembers 71 = .ok (.getfield 19, 3) := by decide +kernel
theorem dX12_remembers_74 : decode cX12_remembers 74 = .ok (.iload_n 1, 1) := by decide +kernel
theorem dX12_remembers_75 : decode cX12_remembers 75 = .ok (.iaload, 1) := by decide +kernel
theorem dX12_remembers_76 : decode cX12_remembers 76 = .ok (.iastore, 1) := by decide +kernel
theorem dX12_remembers_77 : decode cX12_remembers 77 = .ok (.iinc 1 1, 3) := by decide +kernel
theorem dX12_remembers_80 : decode cX12_remembers 80 = .ok (.goto (-29), 3) := by decide +kernel
theorem dX12_remembers_83 : decode cX12_remembers 83 = .ok (.aload_n 0, 1) := by decide +kernel
theorem dX12_remembers_84 : decode cX12_remembers 84 = .ok (.dup, 1) := by decide +kernel
theorem dX12_remembers_85 : decode cX12_remembers 85 = .ok (.getfield 142, 3) := by decide +kernel
theorem dX12_remembers_88 : decode cX12_remembers 88 = .ok (.iconst 1, 1) := by decide +kernel
theorem dX12_remembers_89 : decode cX12_remembers 89 = .ok (.iadd, 1) := by decide +kernel
theorem dX12_remembers_90 : decode cX12_remembers 90 = .ok (.putfield 142, 3) := by decide +kernel
theorem dX12_remembers_93 : decode cX12_remembers 93 = .ok (.return_, 1) := by decide +kernel
theorem dX12_stands_0 : decode cX12_stands 0 = .ok (.aload_n 0, 1) := by decide +kernel
theorem dX12_stands_1 : decode cX12_stands 1 = .ok (.iload_n 1, 1) := by decide +kernel
theorem dX12_stands_2 : decode cX12_stands 2 = .ok (.invokevirtual 192, 3) := by decide +kernel
theorem dX12_stands_5 : decode cX12_stands 5 = .ok (.ifCond .eq 17, 3) := by decide +kernel
theorem dX12_stands_8 : decode cX12_stands 8 = .ok (.iload_n 2, 1) := by decide +kernel
theorem dX12_stands_9 : decode cX12_stands 9 = .ok (.bipush (-9), 2) := by decide +kernel
theorem dX12_stands_11 : decode cX12_stands 11 = .ok (.if_icmp .eq 13, 3) := by decide +kernel
theorem dX12_stands_14 : decode cX12_stands 14 = .ok (.aload_n 0, 1) := by decide +kernel
theorem dX12_stands_15 : decode cX12_stands 15 = .ok (.iload_n 2, 1) := by decide +kernel
theorem dX12_stands_16 : decode cX12_stands 16 = .ok (.invokevirtual 185, 3) := by decide +kernel
theorem dX12_stands_19 : decode cX12_stands 19 = .ok (.ifCond .ne 5, 3) := by decide +kernel
theorem dX12_stands_22 : decode cX12_stands 22 = .ok (.iconst (-1), 1) := by decide +kernel
theorem dX12_stands_23 : decode cX12_stands 23 = .ok (.ireturn, 1) := by decide +kernel
theorem dX12_stands_24 : decode cX12_stands 24 = .ok (.aload_n 0, 1) := by decide +kernel
theorem dX12_stands_25 : decode cX12_stands 25 = .ok (.invokevirtual 202, 3) := by decide +kernel
theorem dX12_stands_28 : decode cX12_stands 28 = .ok (.aload_n 0, 1) := by decide +kernel
theorem dX12_stands_29 : decode cX12_stands 29 = .ok (.getfield 19, 3) := by decide +kernel
theorem dX12_stands_32 : decode cX12_stands 32 = .ok (.iconst 1, 1) := by decide +kernel
theorem dX12_stands_33 : decode cX12_stands 33 = .ok (.iload_n 1, 1) := by decide +kernel
theorem dX12_stands_34 : decode cX12_stands 34 = .ok (.iadd, 1) := by decide +kernel
theorem dX12_stands_35 : decode cX12_stands 35 = .ok (.iaload, 1) := by decide +kernel
theorem dX12_stands_36 : decode cX12_stands 36 = .ok (.istore_n 3, 1) := by decide +kernel
theorem dX12_stands_37 : decode cX12_stands 37 = .ok (.aload_n 0, 1) := by decide +kernel
theorem dX12_stands_38 : decode cX12_stands 38 = .ok (.getfield 19, 3) := by decide +kernel
theorem dX12_stands_41 : decode cX12_stands 41 = .ok (.iconst 1, 1) := by decide +kernel
theorem dX12_stands_42 : decode cX12_stands 42 = .ok (.iload_n 1, 1) := by decide +kernel
theorem dX12_stands_43 : decode cX12_stands 43 = .ok (.iadd, 1) := by decide +kernel
theorem dX12_stands_44 : decode cX12_stands 44 = .ok (.iload_n 2, 1) := by decide +kernel
theorem dX12_stands_45 : decode cX12_stands 45 = .ok (.iastore, 1) := by decide +kernel
theorem dX12_stands_46 : decode cX12_stands 46 = .ok (.iload_n 3, 1) := by decide +kernel
theorem dX12_stands_47 : decode cX12_stands 47 = .ok (.ireturn, 1) := by decide +kernel
theorem dX12_gale_0 : decode cX12_gale 0 = .ok (.iload_n 1, 1) := by decide +kernel
theorem dX12_gale_1 : decode cX12_gale 1 = .ok (.invokestatic 205, 3) := by decide +kernel
theorem dX12_gale_4 : decode cX12_gale 4 = .ok (.ifCond .ne 5, 3) := by decide +kernel
theorem dX12_gale_7 : decode cX12_gale 7 = .ok (.iconst (-1), 1) := by decide +kernel
theorem dX12_gale_8 : decode cX12_gale 8 = .ok (.ireturn, 1) := by decide +kernel
theorem dX12_gale_9 : decode cX12_gale 9 = .ok (.aload_n 0, 1) := by decide +kernel
theorem dX12_gale_10 : decode cX12_gale 10 = .ok (.getfield 19, 3) := by decide +kernel
theorem dX12_gale_13 : decode cX12_gale 13 = .ok (.iconst 0, 1) := by decide +kernel
theorem dX12_gale_14 : decode cX12_gale 14 = .ok (.iaload, 1) := by decide +kernel
theorem dX12_gale_15 : decode cX12_gale 15 = .ok (.sipush 999, 3) := by decide +kernel
theorem dX12_gale_18 : decode cX12_gale 18 = .ok (.if_icmp .ne 6, 3) := by decide +kernel
theorem dX12_gale_21 : decode cX12_gale 21 = .ok (.bipush (-2), 2) := by decide +kernel
theorem dX12_gale_23 : decode cX12_gale 23 = .ok (.ireturn, 1) := by decide +kernel
theorem dX12_gale_24 : decode cX12_gale 24 = .ok (.aload_n 0, 1) := by decide +kernel
theorem dX12_gale_25 : decode cX12_gale 25 = .ok (.invokevirtual 202, 3) := by decide +kernel
theorem dX12_gale_28 : decode cX12_gale 28 = .ok (.aload_n 0, 1) := by decide +kernel
theorem dX12_gale_29 : decode cX12_gale 29 = .ok (.aload_n 0, 1) := by decide +kernel
theorem dX12_gale_30 : decode cX12_gale 30 = .ok (.getfield 19, 3) := by decide +kernel
theorem dX12_gale_33 : decode cX12_gale 33 = .ok (.bipush 6, 2) := by decide +kernel
theorem dX12_gale_35 : decode cX12_gale 35 = .ok (.iload_n 1, 1) := by decide +kernel
theorem dX12_gale_36 : decode cX12_gale 36 = .ok (.invokevirtual 208, 3) := by decide +kernel
theorem dX12_gale_39 : decode cX12_gale 39 = .ok (.aload_n 0, 1) := by decide +kernel
theorem dX12_gale_40 : decode cX12_gale 40 = .ok (.getfield 19, 3) := by decide +kernel
theorem dX12_gale_43 : decode cX12_gale 43 = .ok (.iconst 0, 1) := by decide +kernel
theorem dX12_gale_44 : decode cX12_gale 44 = .ok (.dup2, 1) := by decide +kernel
theorem dX12_gale_45 : decode cX12_gale 45 = .ok (.iaload, 1) := by decide +kernel
theorem dX12_gale_46 : decode cX12_gale 46 = .ok (.iconst 1, 1) := by decide +kernel
theorem dX12_gale_47 : decode cX12_gale 47 = .ok (.iadd, 1) := by decide +kernel
theorem dX12_gale_48 : decode cX12_gale 48 = .ok (.iastore, 1) := by decide +kernel
theorem dX12_gale_49 : decode cX12_gale 49 = .ok (.aload_n 0, 1) := by decide +kernel
theorem dX12_gale_50 : decode cX12_gale 50 = .ok (.aload_n 0, 1) := by decide +kernel
theorem dX12_gale_51 : decode cX12_gale 51 = .ok (.getfield 19, 3) := by decide +kernel
theorem dX12_gale_54 : decode cX12_gale 54 = .ok (.bipush 6, 2) := by decide +kernel
theorem dX12_gale_56 : decode cX12_gale 56 = .ok (.invokevirtual 212, 3) := by decide +kernel
theorem dX12_gale_59 : decode cX12_gale 59 = .ok (.ireturn, 1) := by decide +kernel
theorem dX12_join_0 : decode cX12_join 0 = .ok (.aload_n 0, 1) := by decide +kernel
theorem dX12_join_1 : decode cX12_join 1 = .ok (.iload_n 1, 1) := by decide +kernel
theorem dX12_join_2 : decode cX12_join 2 = .ok (.invokevirtual 185, 3) := by decide +kernel
theorem dX12_join_5 : decode cX12_join 5 = .ok (.ifCond .eq 21, 3) := by decide +kernel
theorem dX12_join_8 : decode cX12_join 8 = .ok (.iload_n 2, 1) := by decide +kernel
theorem dX12_join_9 : decode cX12_join 9 = .ok (.iconst 0, 1) := by decide +kernel
theorem dX12_join_10 : decode cX12_join 10 = .ok (.iconst 1, 1) := by decide +kernel
theorem dX12_join_11 : decode cX12_join 11 = .ok (.invokestatic 73, 3) := by decide +kernel
theorem dX12_join_14 : decode cX12_join 14 = .ok (.ifCond .eq 12, 3) := by decide +kernel
theorem dX12_join_17 : decode cX12_join 17 = .ok (.iload_n 3, 1) := by decide +kernel
theorem dX12_join_18 : decode cX12_join 18 = .ok (.iconst 0, 1) := by decide +kernel
theorem dX12_join_19 : decode cX12_join 19 = .ok (.iconst 3, 1) := by decide +kernel
theorem dX12_join_20 : decode cX12_join 20 = .ok (.invokestatic 73, 3) := by decide +kernel
theorem dX12_join_23 : decode cX12_join 23 = .ok (.ifCond .ne 5, 3) := by decide +kernel
theorem dX12_join_26 : decode cX12_join 26 = .ok (.iconst (-1), 1) := by decide +kernel
theorem dX12_join_27 : decode cX12_join 27 = .ok (.ireturn, 1) := by decide +kernel
theorem dX12_join_28 : decode cX12_join 28 = .ok (.aload_n 0, 1) := by decide +kernel
theorem dX12_join_29 : decode cX12_join 29 = .ok (.invokevirtual 202, 3) := by decide +kernel
theorem dX12_join_32 : decode cX12_join 32 = .ok (.iload_n 1, 1) := by decide +kernel
theorem dX12_join_33 : decode cX12_join 33 = .ok (.iload_n 2, 1) := by decide +kernel
theorem dX12_join_34 : decode cX12_join 34 = .ok (.invokestatic 188, 3) := by decide +kernel
theorem dX12_join_37 : decode cX12_join 37 = .ok (.istore 4, 2) := by decide +kernel
theorem dX12_join_39 : decode cX12_join 39 = .ok (.aload_n 0, 1) := by decide +kernel
theorem dX12_join_40 : decode cX12_join 40 = .ok (.getfield 19, 3) := by decide +kernel
theorem dX12_join_43 : decode cX12_join 43 = .ok (.iload 4, 2) := by decide +kernel
theorem dX12_join_45 : decode cX12_join 45 = .ok (.iaload, 1) := by decide +kernel
theorem dX12_join_46 : decode cX12_join 46 = .ok (.istore 5, 2) := by decide +kernel
theorem dX12_join_48 : decode cX12_join 48 = .ok (.aload_n 0, 1) := by decide +kernel
theorem dX12_join_49 : decode cX12_join 49 = .ok (.getfield 19, 3) := by decide +kernel
theorem dX12_join_52 : decode cX12_join 52 = .ok (.iload 4, 2) := by decide +kernel
theorem dX12_join_54 : decode cX12_join 54 = .ok (.iload_n 3, 1) := by decide +kernel
theorem dX12_join_55 : decode cX12_join 55 = .ok (.iastore, 1) := by decide +kernel
theorem dX12_join_56 : decode cX12_join 56 = .ok (.aload_n 0, 1) := by decide +kernel
theorem dX12_join_57 : decode cX12_join 57 = .ok (.getfield 19, 3) := by decide +kernel
theorem dX12_join_60 : decode cX12_join 60 = .ok (.iload 4, 2) := by decide +kernel
theorem dX12_join_62 : decode cX12_join 62 = .ok (.iconst 1, 1) := by decide +kernel
theorem dX12_join_63 : decode cX12_join 63 = .ok (.iadd, 1) := by decide +kernel
theorem dX12_join_64 : decode cX12_join 64 = .ok (.iconst 0, 1) := by decide +kernel
theorem dX12_join_65 : decode cX12_join 65 = .ok (.iastore, 1) := by decide +kernel
theorem dX12_join_66 : decode cX12_join 66 = .ok (.aload_n 0, 1) := by decide +kernel
theorem dX12_join_67 : decode cX12_join 67 = .ok (.getfield 19, 3) := by decide +kernel
theorem dX12_join_70 : decode cX12_join 70 = .ok (.iload 4, 2) := by decide +kernel
theorem dX12_join_72 : decode cX12_join 72 = .ok (.iconst 2, 1) := by decide +kernel
theorem dX12_join_73 : decode cX12_join 73 = .ok (.iadd, 1) := by decide +kernel
theorem dX12_join_74 : decode cX12_join 74 = .ok (.iconst 0, 1) := by decide +kernel
theorem dX12_join_75 : decode cX12_join 75 = .ok (.iastore, 1) := by decide +kernel
theorem dX12_join_76 : decode cX12_join 76 = .ok (.iload 5, 2) := by decide +kernel
theorem dX12_join_78 : decode cX12_join 78 = .ok (.ireturn, 1) := by decide +kernel
theorem dX12_spring_0 : decode cX12_spring 0 = .ok (.aload_n 0, 1) := by decide +kernel
theorem dX12_spring_1 : decode cX12_spring 1 = .ok (.invokevirtual 202, 3) := by decide +kernel
theorem dX12_spring_4 : decode cX12_spring 4 = .ok (.iconst 0, 1) := by decide +kernel
theorem dX12_spring_5 : decode cX12_spring 5 = .ok (.istore_n 1, 1) := by decide +kernel
theorem dX12_spring_6 : decode cX12_spring 6 = .ok (.iconst 0, 1) := by decide +kernel
theorem dX12_spring_7 : decode cX12_spring 7 = .ok (.istore_n 2, 1) := by decide +kernel
theorem dX12_spring_8 : decode cX12_spring 8 = .ok (.iload_n 2, 1) := by decide +kernel
theorem dX12_spring_9 : decode cX12_spring 9 = .ok (.iconst 2, 1) := by decide +kernel
theorem dX12_spring_10 : decode cX12_spring 10 = .ok (.aload_n 0, 1) := by decide +kernel
theorem dX12_spring_11 : decode cX12_spring 11 = .ok (.getfield 77, 3) := by decide +kernel
theorem dX12_spring_14 : decode cX12_spring 14 = .ok (.imul, 1) := by decide +kernel
theorem dX12_spring_15 : decode cX12_spring 15 = .ok (.if_icmp .ge 85, 3) := by decide +kernel
theorem dX12_spring_18 : decode cX12_spring 18 = .ok (.bipush 6, 2) := by decide +kernel
theorem dX12_spring_20 : decode cX12_spring 20 = .ok (.iconst 3, 1) := by decide +kernel
theorem dX12_spring_21 : decode cX12_spring 21 = .ok (.iload_n 2, 1) := by decide +kernel
theorem dX12_spring_22 : decode cX12_spring 22 = .ok (.imul, 1) := by decide +kernel
theorem dX12_spring_23 : decode cX12_spring 23 = .ok (.iadd, 1) := by decide +kernel
theorem dX12_spring_24 : decode cX12_spring 24 = .ok (.istore_n 3, 1) := by decide +kernel
theorem dX12_spring_25 : decode cX12_spring 25 = .ok (.aload_n 0, 1) := by decide +kernel
theorem dX12_spring_26 : decode cX12_spring 26 = .ok (.getfield 19, 3) := by decide +kernel
theorem dX12_spring_29 : decode cX12_spring 29 = .ok (.iload_n 3, 1) := by decide +kernel
theorem dX12_spring_30 : decode cX12_spring 30 = .ok (.iaload, 1) := by decide +kernel
theorem dX12_spring_31 : decode cX12_spring 31 = .ok (.iconst 1, 1) := by decide +kernel
theorem dX12_spring_32 : decode cX12_spring 32 = .ok (.if_icmp .ne 62, 3) := by decide +kernel
theorem dX12_spring_35 : decode cX12_spring 35 = .ok (.aload_n 0, 1) := by decide +kernel
theorem dX12_spring_36 : decode cX12_spring 36 = .ok (.getfield 19, 3) := by decide +kernel
theorem dX12_spring_39 : decode cX12_spring 39 = .ok (.iload_n 3, 1) := by decide +kernel
theorem dX12_spring_40 : decode cX12_spring 40 = .ok (.iconst 2, 1) := by decide +kernel
theorem dX12_spring_41 : decode cX12_spring 41 = .ok (.iadd, 1) := by decide +kernel
theorem dX12_spring_42 : decode cX12_spring 42 = .ok (.iaload, 1) := by decide +kernel
theorem dX12_spring_43 : decode cX12_spring 43 = .ok (.ifCond .ne 51, 3) := by decide +kernel
theorem dX12_spring_46 : decode cX12_spring 46 = .ok (.aload_n 0, 1) := by decide +kernel
theorem dX12_spring_47 : decode cX12_spring 47 = .ok (.getfield 19, 3) := by decide +kernel
theorem dX12_spring_50 : decode cX12_spring 50 = .ok (.iload_n 3, 1) := by decide +kernel
theorem dX12_spring_51 : decode cX12_spring 51 = .ok (.iconst 1, 1) := by decide +kernel
theorem dX12_spring_52 : decode cX12_spring 52 = .ok (.iadd, 1) := by decide +kernel
theorem dX12_spring_53 : decode cX12_spring 53 = .ok (.iaload, 1) := by decide +kernel
theorem dX12_spring_54 : decode cX12_spring 54 = .ok (.ifCond .le 40, 3) := by decide +kernel
theorem dX12_spring_57 : decode cX12_spring 57 = .ok (.aload_n 0, 1) := by decide +kernel
theorem dX12_spring_58 : decode cX12_spring 58 = .ok (.getfield 19, 3) := by decide +kernel
theorem dX12_spring_61 : decode cX12_spring 61 = .ok (.iload_n 3, 1) := by decide +kernel
theorem dX12_spring_62 : decode cX12_spring 62 = .ok (.iconst 1, 1) := by decide +kernel
theorem dX12_spring_63 : decode cX12_spring 63 = .ok (.iadd, 1) := by decide +kernel
theorem dX12_spring_64 : decode cX12_spring 64 = .ok (.aload_n 0, 1) := by decide +kernel
theorem dX12_spring_65 : decode cX12_spring 65 = .ok (.getfield 19, 3) := by decide +kernel
theorem dX12_spring_68 : decode cX12_spring 68 = .ok (.iload_n 3, 1) := by decide +kernel
theorem dX12_spring_69 : decode cX12_spring 69 = .ok (.iconst 1, 1) := by decide +kernel
theorem dX12_spring_70 : decode cX12_spring 70 = .ok (.iadd, 1) := by decide +kernel
theorem dX12_spring_71 : decode cX12_spring 71 = .ok (.iaload, 1) := by decide +kernel
theorem dX12_spring_72 : decode cX12_spring 72 = .ok (.iconst 2, 1) := by decide +kernel
theorem dX12_spring_73 : decode cX12_spring 73 = .ok (.if_icmp .le 16, 3) := by decide +kernel
theorem dX12_spring_76 : decode cX12_spring 76 = .ok (.aload_n 0, 1) := by decide +kernel
theorem dX12_spring_77 : decode cX12_spring 77 = .ok (.getfield 19, 3) := by decide +kernel
theorem dX12_spring_80 : decode cX12_spring 80 = .ok (.iload_n 3, 1) := by decide +kernel
theorem dX12_spring_81 : decode cX12_spring 81 = .ok (.iconst 1, 1) := by decide +kernel
theorem dX12_spring_82 : decode cX12_spring 82 = .ok (.iadd, 1) := by decide +kernel
theorem dX12_spring_83 : decode cX12_spring 83 = .ok (.iaload, 1) := by decide +kernel
theorem dX12_spring_84 : decode cX12_spring 84 = .ok (.iconst 2, 1) := by decide +kernel
theorem dX12_spring_85 : decode cX12_spring 85 = .ok (.isub, 1) := by decide +kernel
theorem dX12_spring_86 : decode cX12_spring 86 = .ok (.goto 4, 3) := by decide +kernel
theorem dX12_spring_89 : decode cX12_spring 89 = .ok (.iconst 0, 1) := by decide +kernel
theorem dX12_spring_90 : decode cX12_spring 90 = .ok (.iastore, 1) := by decide +kernel
theorem dX12_spring_91 : decode cX12_spring 91 = .ok (.iinc 1 1, 3) := by decide +kernel
theorem dX12_spring_94 : decode cX12_spring 94 = .ok (.iinc 2 1, 3) := by decide +kernel
theorem dX12_spring_97 : decode cX12_spring 97 = .ok (.goto (-89), 3) := by decide +kernel
theorem dX12_spring_100 : decode cX12_spring 100 = .ok (.iload_n 1, 1) := by decide +kernel
theorem dX12_spring_101 : decode cX12_spring 101 = .ok (.ireturn, 1) := by decide +kernel
theorem dX12_undo_0 : decode cX12_undo 0 = .ok (.aload_n 0, 1) := by decide +kernel
theorem dX12_undo_1 : decode cX12_undo 1 = .ok (.getfield 142, 3) := by decide +kernel
theorem dX12_undo_4 : decode cX12_undo 4 = .ok (.ifCond .ne 6, 3) := by decide +kernel
theorem dX12_undo_7 : decode cX12_undo 7 = .ok (.bipush (-2), 2) := by decide +kernel
theorem dX12_undo_9 : decode cX12_undo 9 = .ok (.ireturn, 1) := by decide +kernel
theorem dX12_undo_10 : decode cX12_undo 10 = .ok (.aload_n 0, 1) := by decide +kernel
theorem dX12_undo_11 : decode cX12_undo 11 = .ok (.dup, 1) := by decide +kernel
theorem dX12_undo_12 : decode cX12_undo 12 = .ok (.getfield 142, 3) := by decide +kernel
theorem dX12_undo_15 : decode cX12_undo 15 = .ok (.iconst 1, 1) := by decide +kernel
theorem dX12_undo_16 : decode cX12_undo 16 = .ok (.isub, 1) := by decide +kernel
theorem dX12_undo_17 : decode cX12_undo 17 = .ok (.putfield 142, 3) := by decide +kernel
theorem dX12_undo_20 : decode cX12_undo 20 = .ok (.iconst 0, 1) := by decide +kernel
theorem dX12_undo_21 : decode cX12_undo 21 = .ok (.istore_n 1, 1) := by decide +kernel
theorem dX12_undo_22 : decode cX12_undo 22 = .ok (.iload_n 1, 1) := by decide +kernel
theorem dX12_undo_23 : decode cX12_undo 23 = .ok (.bipush 42, 2) := by decide +kernel
theorem dX12_undo_25 : decode cX12_undo 25 = .ok (.if_icmp .ge 29, 3) := by decide +kernel
theorem dX12_undo_28 : decode cX12_undo 28 = .ok (.aload_n 0, 1) := by decide +kernel
theorem dX12_undo_29 : decode cX12_undo 29 = .ok (.getfield 19, 3) := by decide +kernel
theorem dX12_undo_32 : decode cX12_undo 32 = .ok (.iload_n 1, 1) := by decide +kernel
theorem dX12_undo_33 : decode cX12_undo 33 = .ok (.aload_n 0, 1) := by decide +kernel
theorem dX12_undo_34 : decode cX12_undo 34 = .ok (.getfield 22, 3) := by decide +kernel
theorem dX12_undo_37 : decode cX12_undo 37 = .ok (.bipush 42, 2) := by decide +kernel
theorem dX12_undo_39 : decode cX12_undo 39 = .ok (.aload_n 0, 1) := by decide +kernel
theorem dX12_undo_40 : decode cX12_undo 40 = .ok (.getfield 142, 3) := by decide +kernel
theorem dX12_undo_43 : decode cX12_undo 43 = .ok (.imul, 1) := by decide +kernel
theorem dX12_undo_44 : decode cX12_undo 44 = .ok (.iload_n 1, 1) := by decide +kernel
theorem dX12_undo_45 : decode cX12_undo 45 = .ok (.iadd, 1) := by decide +kernel
theorem dX12_undo_46 : decode cX12_undo 46 = .ok (.iaload, 1) := by decide +kernel
theorem dX12_undo_47 : decode cX12_undo 47 = .ok (.iastore, 1) := by decide +kernel
theorem dX12_undo_48 : decode cX12_undo 48 = .ok (.iinc 1 1, 3) := by decide +kernel
theorem dX12_undo_51 : decode cX12_undo 51 = .ok (.goto (-29), 3) := by decide +kernel
theorem dX12_undo_54 : decode cX12_undo 54 = .ok (.aload_n 0, 1) := by decide +kernel
theorem dX12_undo_55 : decode cX12_undo 55 = .ok (.getfield 142, 3) := by decide +kernel
theorem dX12_undo_58 : decode cX12_undo 58 = .ok (.ireturn, 1) := by decide +kernel
theorem dX12_lays_0 : decode cX12_lays 0 = .ok (.iload_n 1, 1) := by decide +kernel
theorem dX12_lays_1 : decode cX12_lays 1 = .ok (.istore_n 2, 1) := by decide +kernel
theorem dX12_lays_2 : decode cX12_lays 2 = .ok (.aload_n 0, 1) := by decide +kernel
theorem dX12_lays_3 : decode cX12_lays 3 = .ok (.getfield 80, 3) := by decide +kernel
theorem dX12_lays_6 : decode cX12_lays 6 = .ok (.iconst 1, 1) := by decide +kernel
theorem dX12_lays_7 : decode cX12_lays 7 = .ok (.isub, 1) := by decide +kernel
theorem dX12_lays_8 : decode cX12_lays 8 = .ok (.istore_n 3, 1) := by decide +kernel
theorem dX12_lays_9 : decode cX12_lays 9 = .ok (.iload_n 3, 1) := by decide +kernel
theorem dX12_lays_10 : decode cX12_lays 10 = .ok (.ifCond .lt 50, 3) := by decide +kernel
theorem dX12_lays_13 : decode cX12_lays 13 = .ok (.iload_n 2, 1) := by decide +kernel
theorem dX12_lays_14 : decode cX12_lays 14 = .ok (.aload_n 0, 1) := by decide +kernel
theorem dX12_lays_15 : decode cX12_lays 15 = .ok (.getfield 77, 3) := by decide +kernel
theorem dX12_lays_18 : decode cX12_lays 18 = .ok (.iconst 1, 1) := by decide +kernel
theorem dX12_lays_19 : decode cX12_lays 19 = .ok (.iadd, 1) := by decide +kernel
theorem dX12_lays_20 : decode cX12_lays 20 = .ok (.irem, 1) := by decide +kernel
theorem dX12_lays_21 : decode cX12_lays 21 = .ok (.istore 4, 2) := by decide +kernel
theorem dX12_lays_23 : decode cX12_lays 23 = .ok (.aload_n 0, 1) := by decide +kernel
theorem dX12_lays_24 : decode cX12_lays 24 = .ok (.getfield 47, 3) := by decide +kernel
theorem dX12_lays_27 : decode cX12_lays 27 = .ok (.iload_n 3, 1) := by decide +kernel
theorem dX12_lays_28 : decode cX12_lays 28 = .ok (.iload 4, 2) := by decide +kernel
theorem dX12_lays_30 : decode cX12_lays 30 = .ok (.aload_n 0, 1) := by decide +kernel
theorem dX12_lays_31 : decode cX12_lays 31 = .ok (.getfield 77, 3) := by decide +kernel
theorem dX12_lays_34 : decode cX12_lays 34 = .ok (.if_icmp .ne 8, 3) := by decide +kernel
theorem dX12_lays_37 : decode cX12_lays 37 = .ok (.bipush (-9), 2) := by decide +kernel
theorem dX12_lays_39 : decode cX12_lays 39 = .ok (.goto 5, 3) := by decide +kernel
theorem dX12_lays_42 : decode cX12_lays 42 = .ok (.iload 4, 2) := by decide +kernel
theorem dX12_lays_44 : decode cX12_lays 44 = .ok (.iastore, 1) := by decide +kernel
theorem dX12_lays_45 : decode cX12_lays 45 = .ok (.iload_n 2, 1) := by decide +kernel
theorem dX12_lays_46 : decode cX12_lays 46 = .ok (.aload_n 0, 1) := by decide +kernel
theorem dX12_lays_47 : decode cX12_lays 47 = .ok (.getfield 77, 3) := by decide +kernel
theorem dX12_lays_50 : decode cX12_lays 50 = .ok (.iconst 1, 1) := by decide +kernel
theorem dX12_lays_51 : decode cX12_lays 51 = .ok (.iadd, 1) := by decide +kernel
theorem dX12_lays_52 : decode cX12_lays 52 = .ok (.idiv, 1) := by decide +kernel
theorem dX12_lays_53 : decode cX12_lays 53 = .ok (.istore_n 2, 1) := by decide +kernel
theorem dX12_lays_54 : decode cX12_lays 54 = .ok (.iinc 3 (-1), 3) := by decide +kernel
theorem dX12_lays_57 : decode cX12_lays 57 = .ok (.goto (-48), 3) := by decide +kernel
theorem dX12_lays_60 : decode cX12_lays 60 = .ok (.aload_n 0, 1) := by decide +kernel
theorem dX12_lays_61 : decode cX12_lays 61 = .ok (.invokevirtual 151, 3) := by decide +kernel
theorem dX12_lays_64 : decode cX12_lays 64 = .ok (.return_, 1) := by decide +kernel
theorem dX12_standing_0 : decode cX12_standing 0 = .ok (.iconst 0, 1) := by decide +kernel
theorem dX12_standing_1 : decode cX12_standing 1 = .ok (.istore_n 1, 1) := by decide +kernel
theorem dX12_standing_2 : decode cX12_standing 2 = .ok (.iconst 0, 1) := by decide +kernel
theorem dX12_standing_3 : decode cX12_standing 3 = .ok (.istore_n 2, 1) := by decide +kernel
theorem dX12_standing_4 : decode cX12_standing 4 = .ok (.iload_n 2, 1) := by decide +kernel
theorem dX12_standing_5 : decode cX12_standing 5 = .ok (.aload_n 0, 1) := by decide +kernel
theorem dX12_standing_6 : decode cX12_standing 6 = .ok (.getfield 80, 3) := by decide +kernel
theorem dX12_standing_9 : decode cX12_standing 9 = .ok (.if_icmp .ge 28, 3) := by decide +kernel
theorem dX12_standing_12 : decode cX12_standing 12 = .ok (.iload_n 1, 1) := by decide +kernel
theorem dX12_standing_13 : decode cX12_standing 13 = .ok (.aload_n 0, 1) := by decide +kernel
theorem dX12_standing_14 : decode cX12_standing 14 = .ok (.getfield 47, 3) := by decide +kernel
theorem dX12_standing_17 : decode cX12_standing 17 = .ok (.iload_n 2, 1) := by decide +kernel
theorem dX12_standing_18 : decode cX12_standing 18 = .ok (.iaload, 1) := by decide +kernel
theorem dX12_standing_19 : decode cX12_standing 19 = .ok (.bipush (-9), 2) := by decide +kernel
theorem dX12_standing_21 : decode cX12_standing 21 = .ok (.if_icmp .ne 7, 3) := by decide +kernel
theorem dX12_standing_24 : decode cX12_standing 24 = .ok (.iconst 0, 1) := by decide +kernel
theorem dX12_standing_25 : decode cX12_standing 25 = .ok (.goto 4, 3) := by decide +kernel
theorem dX12_standing_28 : decode cX12_standing 28 = .ok (.iconst 1, 1) := by decide +kernel
theorem dX12_standing_29 : decode cX12_standing 29 = .ok (.iadd, 1) := by decide +kernel
theorem dX12_standing_30 : decode cX12_standing 30 = .ok (.istore_n 1, 1) := by decide +kernel
theorem dX12_standing_31 : decode cX12_standing 31 = .ok (.iinc 2 1, 3) := by decide +kernel
theorem dX12_standing_34 : decode cX12_standing 34 = .ok (.goto (-30), 3) := by decide +kernel
theorem dX12_standing_37 : decode cX12_standing 37 = .ok (.iload_n 1, 1) := by decide +kernel
theorem dX12_standing_38 : decode cX12_standing 38 = .ok (.ireturn, 1) := by decide +kernel
theorem dX12_paid_0 : decode cX12_paid 0 = .ok (.iconst 0, 1) := by decide +kernel
theorem dX12_paid_1 : decode cX12_paid 1 = .ok (.istore_n 1, 1) := by decide +kernel
theorem dX12_paid_2 : decode cX12_paid 2 = .ok (.iconst 0, 1) := by decide +kernel
theorem dX12_paid_3 : decode cX12_paid 3 = .ok (.istore_n 2, 1) := by decide +kernel
theorem dX12_paid_4 : decode cX12_paid 4 = .ok (.iload_n 2, 1) := by decide +kernel
theorem dX12_paid_5 : decode cX12_paid 5 = .ok (.aload_n 0, 1) := by decide +kernel
theorem dX12_paid_6 : decode cX12_paid 6 = .ok (.getfield 80, 3) := by decide +kernel
theorem dX12_paid_9 : decode cX12_paid 9 = .ok (.if_icmp .ge 37, 3) := by decide +kernel
theorem dX12_paid_12 : decode cX12_paid 12 = .ok (.iload_n 1, 1) := by decide +kernel
theorem dX12_paid_13 : decode cX12_paid 13 = .ok (.aload_n 0, 1) := by decide +kernel
theorem dX12_paid_14 : decode cX12_paid 14 = .ok (.getfield 47, 3) := by decide +kernel
theorem dX12_paid_17 : decode cX12_paid 17 = .ok (.iload_n 2, 1) := by decide +kernel
theorem dX12_paid_18 : decode cX12_paid 18 = .ok (.iaload, 1) := by decide +kernel
theorem dX12_paid_19 : decode cX12_paid 19 = .ok (.bipush (-9), 2) := by decide +kernel
theorem dX12_paid_21 : decode cX12_paid 21 = .ok (.if_icmp .ne 7, 3) := by decide +kernel
theorem dX12_paid_24 : decode cX12_paid 24 = .ok (.iconst 0, 1) := by decide +kernel
theorem dX12_paid_25 : decode cX12_paid 25 = .ok (.goto 13, 3) := by decide +kernel
theorem dX12_paid_28 : decode cX12_paid 28 = .ok (.aload_n 0, 1) := by decide +kernel
theorem dX12_paid_29 : decode cX12_paid 29 = .ok (.getfield 16, 3) := by decide +kernel
theorem dX12_paid_32 : decode cX12_paid 32 = .ok (.iconst 2, 1) := by decide +kernel
theorem dX12_paid_33 : decode cX12_paid 33 = .ok (.iload_n 2, 1) := by decide +kernel
theorem dX12_paid_34 : decode cX12_paid 34 = .ok (.imul, 1) := by decide +kernel
theorem dX12_paid_35 : decode cX12_paid 35 = .ok (.iconst 1, 1) := by decide +kernel
theorem dX12_paid_36 : decode cX12_paid 36 = .ok (.iadd, 1) := by decide +kernel
theorem dX12_paid_37 : decode cX12_paid 37 = .ok (.iaload, 1) := by decide +kernel
theorem dX12_paid_38 : decode cX12_paid 38 = .ok (.iadd, 1) := by decide +kernel
theorem dX12_paid_39 : decode cX12_paid 39 = .ok (.istore_n 1, 1) := by decide +kernel
theorem dX12_paid_40 : decode cX12_paid 40 = .ok (.iinc 2 1, 3) := by decide +kernel
theorem dX12_paid_43 : decode cX12_paid 43 = .ok (.goto (-39), 3) := by decide +kernel
theorem dX12_paid_46 : decode cX12_paid 46 = .ok (.iload_n 1, 1) := by decide +kernel
theorem dX12_paid_47 : decode cX12_paid 47 = .ok (.ireturn, 1) := by decide +kernel
theorem dX12_worth_0 : decode cX12_worth 0 = .ok (.iload_n 1, 1) := by decide +kernel
theorem dX12_worth_1 : decode cX12_worth 1 = .ok (.ifCond .eq 21, 3) := by decide +kernel
theorem dX12_worth_4 : decode cX12_worth 4 = .ok (.bipush 10, 2) := by decide +kernel
theorem dX12_worth_6 : decode cX12_worth 6 = .ok (.aload_n 0, 1) := by decide +kernel
theorem dX12_worth_7 : decode cX12_worth 7 = .ok (.invokevirtual 216, 3) := by decide +kernel
theorem dX12_worth_10 : decode cX12_worth 10 = .ok (.imul, 1) := by decide +kernel
theorem dX12_worth_11 : decode cX12_worth 11 = .ok (.bipush 9, 2) := by decide +kernel
theorem dX12_worth_13 : decode cX12_worth 13 = .ok (.iadd, 1) := by decide +kernel
theorem dX12_worth_14 : decode cX12_worth 14 = .ok (.aload_n 0, 1) := by decide +kernel
theorem dX12_worth_15 : decode cX12_worth 15 = .ok (.invokevirtual 219, 3) := by decide +kernel
theorem dX12_worth_18 : decode cX12_worth 18 = .ok (.isub, 1) := by decide +kernel
theorem dX12_worth_19 : decode cX12_worth 19 = .ok (.goto 7, 3) := by decide +kernel
theorem dX12_worth_22 : decode cX12_worth 22 = .ok (.aload_n 0, 1) := by decide +kernel
theorem dX12_worth_23 : decode cX12_worth 23 = .ok (.invokevirtual 219, 3) := by decide +kernel
theorem dX12_worth_26 : decode cX12_worth 26 = .ok (.ireturn, 1) := by decide +kernel
theorem dX12_bestRow_0 : decode cX12_bestRow 0 = .ok (.aload_n 0, 1) := by decide +kernel
theorem dX12_bestRow_1 : decode cX12_bestRow 1 = .ok (.invokevirtual 195, 3) := by decide +kernel
theorem dX12_bestRow_4 : decode cX12_bestRow 4 = .ok (.iconst 1, 1) := by decide +kernel
theorem dX12_bestRow_5 : decode cX12_bestRow 5 = .ok (.istore_n 2, 1) := by decide +kernel
theorem dX12_bestRow_6 : decode cX12_bestRow 6 = .ok (.iconst 0, 1) := by decide +kernel
theorem dX12_bestRow_7 : decode cX12_bestRow 7 = .ok (.istore_n 3, 1) := by decide +kernel
theorem dX12_bestRow_8 : decode cX12_bestRow 8 = .ok (.iload_n 3, 1) := by decide +kernel
theorem dX12_bestRow_9 : decode cX12_bestRow 9 = .ok (.aload_n 0, 1) := by decide +kernel
theorem dX12_bestRow_10 : decode cX12_bestRow 10 = .ok (.getfield 80, 3) := by decide +kernel
theorem dX12_bestRow_13 : decode cX12_bestRow 13 = .ok (.if_icmp .ge 18, 3) := by decide +kernel
theorem dX12_bestRow_16 : decode cX12_bestRow 16 = .ok (.iload_n 2, 1) := by decide +kernel
theorem dX12_bestRow_17 : decode cX12_bestRow 17 = .ok (.aload_n 0, 1) := by decide +kernel
theorem dX12_bestRow_18 : decode cX12_bestRow 18 = .ok (.getfield 77, 3) := by decide +kernel
theorem dX12_bestRow_21 : decode cX12_bestRow 21 = .ok (.iconst 1, 1) := by decide +kernel
theorem dX12_bestRow_22 : decode cX12_bestRow 22 = .ok (.iadd, 1) := by decide +kernel
theorem dX12_bestRow_23 : decode cX12_bestRow 23 = .ok (.imul, 1) := by decide +kernel
theorem dX12_bestRow_24 : decode cX12_bestRow 24 = .ok (.istore_n 2, 1) := by decide +kernel
theorem dX12_bestRow_25 : decode cX12_bestRow 25 = .ok (.iinc 3 1, 3) := by decide +kernel
theorem dX12_bestRow_28 : decode cX12_bestRow 28 = .ok (.goto (-20), 3) := by decide +kernel
theorem dX12_bestRow_31 : decode cX12_bestRow 31 = .ok (.iconst 0, 1) := by decide +kernel
theorem dX12_bestRow_32 : decode cX12_bestRow 32 = .ok (.istore_n 3, 1) := by decide +kernel
theorem dX12_bestRow_33 : decode cX12_bestRow 33 = .ok (.iconst (-1), 1) := by decide +kernel
theorem dX12_bestRow_34 : decode cX12_bestRow 34 = .ok (.istore 4, 2) := by decide +kernel
theorem dX12_bestRow_36 : decode cX12_bestRow 36 = .ok (.iconst 0, 1) := by decide +kernel
theorem dX12_bestRow_37 : decode cX12_bestRow 37 = .ok (.istore 5, 2) := by decide +kernel
theorem dX12_bestRow_39 : decode cX12_bestRow 39 = .ok (.iload 5, 2) := by decide +kernel
theorem dX12_bestRow_41 : decode cX12_bestRow 41 = .ok (.iload_n 2, 1) := by decide +kernel
theorem dX12_bestRow_42 : decode cX12_bestRow 42 = .ok (.if_icmp .ge 43, 3) := by decide +kernel
theorem dX12_bestRow_45 : decode cX12_bestRow 45 = .ok (.aload_n 0, 1) := by decide +kernel
theorem dX12_bestRow_46 : decode cX12_bestRow 46 = .ok (.iload 5, 2) := by decide +kernel
theorem dX12_bestRow_48 : decode cX12_bestRow 48 = .ok (.invokevirtual 222, 3) := by decide +kernel
theorem dX12_bestRow_51 : decode cX12_bestRow 51 = .ok (.aload_n 0, 1) := by decide +kernel
theorem dX12_bestRow_52 : decode cX12_bestRow 52 = .ok (.iload_n 1, 1) := by decide +kernel
theorem dX12_bestRow_53 : decode cX12_bestRow 53 = .ok (.invokevirtual 226, 3) := by decide +kernel
theorem dX12_bestRow_56 : decode cX12_bestRow 56 = .ok (.istore 6, 2) := by decide +kernel
theorem dX12_bestRow_58 : decode cX12_bestRow 58 = .ok (.iload 6, 2) := by decide +kernel
theorem dX12_bestRow_60 : decode cX12_bestRow 60 = .ok (.iload 4, 2) := by decide +kernel
theorem dX12_bestRow_62 : decode cX12_bestRow 62 = .ok (.if_icmp .le 17, 3) := by decide +kernel
theorem dX12_bestRow_65 : decode cX12_bestRow 65 = .ok (.aload_n 0, 1) := by decide +kernel
theorem dX12_bestRow_66 : decode cX12_bestRow 66 = .ok (.invokevirtual 198, 3) := by decide +kernel
theorem dX12_bestRow_69 : decode cX12_bestRow 69 = .ok (.ifCond .eq 10, 3) := by decide +kernel
