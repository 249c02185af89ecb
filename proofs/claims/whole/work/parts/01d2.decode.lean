theorem dX9_readItem_59 : decode cX9_readItem 59 = .ok (.iinc 3 1, 3) := by decide +kernel
theorem dX9_readItem_62 : decode cX9_readItem 62 = .ok (.goto (-45), 3) := by decide +kernel
theorem dX9_readItem_65 : decode cX9_readItem 65 = .ok (.aload_n 0, 1) := by decide +kernel
theorem dX9_readItem_66 : decode cX9_readItem 66 = .ok (.invokevirtual 42, 3) := by decide +kernel
theorem dX9_readItem_69 : decode cX9_readItem 69 = .ok (.aload_n 0, 1) := by decide +kernel
theorem dX9_readItem_70 : decode cX9_readItem 70 = .ok (.getfield 25, 3) := by decide +kernel
theorem dX9_readItem_73 : decode cX9_readItem 73 = .ok (.bipush 59, 2) := by decide +kernel
theorem dX9_readItem_75 : decode cX9_readItem 75 = .ok (.if_icmp .eq 5, 3) := by decide +kernel
theorem dX9_readItem_78 : decode cX9_readItem 78 = .ok (.iconst 0, 1) := by decide +kernel
theorem dX9_readItem_79 : decode cX9_readItem 79 = .ok (.ireturn, 1) := by decide +kernel
theorem dX9_readItem_80 : decode cX9_readItem 80 = .ok (.aload_n 1, 1) := by decide +kernel
theorem dX9_readItem_81 : decode cX9_readItem 81 = .ok (.iload_n 2, 1) := by decide +kernel
theorem dX9_readItem_82 : decode cX9_readItem 82 = .ok (.aload_n 0, 1) := by decide +kernel
theorem dX9_readItem_83 : decode cX9_readItem 83 = .ok (.getfield 34, 3) := by decide +kernel
theorem dX9_readItem_86 : decode cX9_readItem 86 = .ok (.invokevirtual 61, 3) := by decide +kernel
theorem dX9_readItem_89 : decode cX9_readItem 89 = .ok (.iconst 1, 1) := by decide +kernel
theorem dX9_readItem_90 : decode cX9_readItem 90 = .ok (.ireturn, 1) := by decide +kernel
theorem dX9_numbersOf_0 : decode cX9_numbersOf 0 = .ok (.iload_n 0, 1) := by decide +kernel
theorem dX9_numbersOf_1 : decode cX9_numbersOf 1 = .ok (.lookupswitch 50 #[(98, 35), (99, 45), (112, 40)], 35) := by decide +kernel
theorem dX9_numbersOf_36 : decode cX9_numbersOf 36 = .ok (.getstatic 65, 3) := by decide +kernel
theorem dX9_numbersOf_39 : decode cX9_numbersOf 39 = .ok (.arraylength, 1) := by decide +kernel
theorem dX9_numbersOf_40 : decode cX9_numbersOf 40 = .ok (.ireturn, 1) := by decide +kernel
theorem dX9_numbersOf_41 : decode cX9_numbersOf 41 = .ok (.getstatic 31, 3) := by decide +kernel
theorem dX9_numbersOf_44 : decode cX9_numbersOf 44 = .ok (.arraylength, 1) := by decide +kernel
theorem dX9_numbersOf_45 : decode cX9_numbersOf 45 = .ok (.ireturn, 1) := by decide +kernel
theorem dX9_numbersOf_46 : decode cX9_numbersOf 46 = .ok (.getstatic 68, 3) := by decide +kernel
theorem dX9_numbersOf_49 : decode cX9_numbersOf 49 = .ok (.arraylength, 1) := by decide +kernel
theorem dX9_numbersOf_50 : decode cX9_numbersOf 50 = .ok (.ireturn, 1) := by decide +kernel
theorem dX9_numbersOf_51 : decode cX9_numbersOf 51 = .ok (.iconst 0, 1) := by decide +kernel
theorem dX9_numbersOf_52 : decode cX9_numbersOf 52 = .ok (.ireturn, 1) := by decide +kernel
theorem dX9_mayStand_0 : decode cX9_mayStand 0 = .ok (.iload_n 2, 1) := by decide +kernel
theorem dX9_mayStand_1 : decode cX9_mayStand 1 = .ok (.lookupswitch 111 #[(98, 35), (99, 93), (112, 53)], 35) := by decide +kernel
theorem dX9_mayStand_36 : decode cX9_mayStand 36 = .ok (.aload_n 0, 1) := by decide +kernel
theorem dX9_mayStand_37 : decode cX9_mayStand 37 = .ok (.getfield 28, 3) := by decide +kernel
theorem dX9_mayStand_40 : decode cX9_mayStand 40 = .ok (.getstatic 65, 3) := by decide +kernel
theorem dX9_mayStand_43 : decode cX9_mayStand 43 = .ok (.iload_n 3, 1) := by decide +kernel
theorem dX9_mayStand_44 : decode cX9_mayStand 44 = .ok (.iaload, 1) := by decide +kernel
theorem dX9_mayStand_45 : decode cX9_mayStand 45 = .ok (.getstatic 71, 3) := by decide +kernel
theorem dX9_mayStand_48 : decode cX9_mayStand 48 = .ok (.iload_n 3, 1) := by decide +kernel
theorem dX9_mayStand_49 : decode cX9_mayStand 49 = .ok (.iaload, 1) := by decide +kernel
theorem dX9_mayStand_50 : decode cX9_mayStand 50 = .ok (.invokestatic 74, 3) := by decide +kernel
theorem dX9_mayStand_53 : decode cX9_mayStand 53 = .ok (.ireturn, 1) := by decide +kernel
theorem dX9_mayStand_54 : decode cX9_mayStand 54 = .ok (.aload_n 0, 1) := by decide +kernel
theorem dX9_mayStand_55 : decode cX9_mayStand 55 = .ok (.getfield 28, 3) := by decide +kernel
theorem dX9_mayStand_58 : decode cX9_mayStand 58 = .ok (.getstatic 31, 3) := by decide +kernel
theorem dX9_mayStand_61 : decode cX9_mayStand 61 = .ok (.iload_n 3, 1) := by decide +kernel
theorem dX9_mayStand_62 : decode cX9_mayStand 62 = .ok (.iaload, 1) := by decide +kernel
theorem dX9_mayStand_63 : decode cX9_mayStand 63 = .ok (.getstatic 78, 3) := by decide +kernel
theorem dX9_mayStand_66 : decode cX9_mayStand 66 = .ok (.iload_n 3, 1) := by decide +kernel
theorem dX9_mayStand_67 : decode cX9_mayStand 67 = .ok (.iaload, 1) := by decide +kernel
theorem dX9_mayStand_68 : decode cX9_mayStand 68 = .ok (.invokestatic 74, 3) := by decide +kernel
theorem dX9_mayStand_71 : decode cX9_mayStand 71 = .ok (.ifCond .eq 21, 3) := by decide +kernel
theorem dX9_mayStand_74 : decode cX9_mayStand 74 = .ok (.iload_n 3, 1) := by decide +kernel
theorem dX9_mayStand_75 : decode cX9_mayStand 75 = .ok (.iconst 1, 1) := by decide +kernel
theorem dX9_mayStand_76 : decode cX9_mayStand 76 = .ok (.if_icmp .gt 12, 3) := by decide +kernel
theorem dX9_mayStand_79 : decode cX9_mayStand 79 = .ok (.aload_n 0, 1) := by decide +kernel
theorem dX9_mayStand_80 : decode cX9_mayStand 80 = .ok (.aload_n 1, 1) := by decide +kernel
theorem dX9_mayStand_81 : decode cX9_mayStand 81 = .ok (.iload_n 3, 1) := by decide +kernel
theorem dX9_mayStand_82 : decode cX9_mayStand 82 = .ok (.invokevirtual 81, 3) := by decide +kernel
theorem dX9_mayStand_85 : decode cX9_mayStand 85 = .ok (.ifCond .eq 7, 3) := by decide +kernel
theorem dX9_mayStand_88 : decode cX9_mayStand 88 = .ok (.iconst 1, 1) := by decide +kernel
theorem dX9_mayStand_89 : decode cX9_mayStand 89 = .ok (.goto 4, 3) := by decide +kernel
theorem dX9_mayStand_92 : decode cX9_mayStand 92 = .ok (.iconst 0, 1) := by decide +kernel
theorem dX9_mayStand_93 : decode cX9_mayStand 93 = .ok (.ireturn, 1) := by decide +kernel
theorem dX9_mayStand_94 : decode cX9_mayStand 94 = .ok (.aload_n 0, 1) := by decide +kernel
theorem dX9_mayStand_95 : decode cX9_mayStand 95 = .ok (.getfield 28, 3) := by decide +kernel
theorem dX9_mayStand_98 : decode cX9_mayStand 98 = .ok (.getstatic 68, 3) := by decide +kernel
theorem dX9_mayStand_101 : decode cX9_mayStand 101 = .ok (.iload_n 3, 1) := by decide +kernel
theorem dX9_mayStand_102 : decode cX9_mayStand 102 = .ok (.iaload, 1) := by decide +kernel
theorem dX9_mayStand_103 : decode cX9_mayStand 103 = .ok (.getstatic 85, 3) := by decide +kernel
theorem dX9_mayStand_106 : decode cX9_mayStand 106 = .ok (.iload_n 3, 1) := by decide +kernel
theorem dX9_mayStand_107 : decode cX9_mayStand 107 = .ok (.iaload, 1) := by decide +kernel
theorem dX9_mayStand_108 : decode cX9_mayStand 108 = .ok (.invokestatic 74, 3) := by decide +kernel
theorem dX9_mayStand_111 : decode cX9_mayStand 111 = .ok (.ireturn, 1) := by decide +kernel
theorem dX9_mayStand_112 : decode cX9_mayStand 112 = .ok (.iconst 0, 1) := by decide +kernel
theorem dX9_mayStand_113 : decode cX9_mayStand 113 = .ok (.ireturn, 1) := by decide +kernel
theorem dX9_mayBeUnder_0 : decode cX9_mayBeUnder 0 = .ok (.aload_n 0, 1) := by decide +kernel
theorem dX9_mayBeUnder_1 : decode cX9_mayBeUnder 1 = .ok (.getfield 28, 3) := by decide +kernel
theorem dX9_mayBeUnder_4 : decode cX9_mayBeUnder 4 = .ok (.aload_n 1, 1) := by decide +kernel
theorem dX9_mayBeUnder_5 : decode cX9_mayBeUnder 5 = .ok (.getfield 88, 3) := by decide +kernel
theorem dX9_mayBeUnder_8 : decode cX9_mayBeUnder 8 = .ok (.if_icmp .lt 5, 3) := by decide +kernel
theorem dX9_mayBeUnder_11 : decode cX9_mayBeUnder 11 = .ok (.iconst 0, 1) := by decide +kernel
theorem dX9_mayBeUnder_12 : decode cX9_mayBeUnder 12 = .ok (.ireturn, 1) := by decide +kernel
theorem dX9_mayBeUnder_13 : decode cX9_mayBeUnder 13 = .ok (.iload_n 2, 1) := by decide +kernel
theorem dX9_mayBeUnder_14 : decode cX9_mayBeUnder 14 = .ok (.ifCond .eq 33, 3) := by decide +kernel
theorem dX9_mayBeUnder_17 : decode cX9_mayBeUnder 17 = .ok (.aload_n 0, 1) := by decide +kernel
theorem dX9_mayBeUnder_18 : decode cX9_mayBeUnder 18 = .ok (.getfield 28, 3) := by decide +kernel
theorem dX9_mayBeUnder_21 : decode cX9_mayBeUnder 21 = .ok (.aload_n 0, 1) := by decide +kernel
theorem dX9_mayBeUnder_22 : decode cX9_mayBeUnder 22 = .ok (.getfield 34, 3) := by decide +kernel
theorem dX9_mayBeUnder_25 : decode cX9_mayBeUnder 25 = .ok (.iconst 0, 1) := by decide +kernel
theorem dX9_mayBeUnder_26 : decode cX9_mayBeUnder 26 = .ok (.iaload, 1) := by decide +kernel
theorem dX9_mayBeUnder_27 : decode cX9_mayBeUnder 27 = .ok (.if_icmp .eq 24, 3) := by decide +kernel
theorem dX9_mayBeUnder_30 : decode cX9_mayBeUnder 30 = .ok (.aload_n 1, 1) := by decide +kernel
theorem dX9_mayBeUnder_31 : decode cX9_mayBeUnder 31 = .ok (.aload_n 0, 1) := by decide +kernel
theorem dX9_mayBeUnder_32 : decode cX9_mayBeUnder 32 = .ok (.getfield 34, 3) := by decide +kernel
theorem dX9_mayBeUnder_35 : decode cX9_mayBeUnder 35 = .ok (.iconst 0, 1) := by decide +kernel
theorem dX9_mayBeUnder_36 : decode cX9_mayBeUnder 36 = .ok (.iaload, 1) := by decide +kernel
theorem dX9_mayBeUnder_37 : decode cX9_mayBeUnder 37 = .ok (.aload_n 0, 1) := by decide +kernel
theorem dX9_mayBeUnder_38 : decode cX9_mayBeUnder 38 = .ok (.getfield 28, 3) := by decide +kernel
theorem dX9_mayBeUnder_41 : decode cX9_mayBeUnder 41 = .ok (.invokevirtual 91, 3) := by decide +kernel
theorem dX9_mayBeUnder_44 : decode cX9_mayBeUnder 44 = .ok (.ifCond .ne 7, 3) := by decide +kernel
theorem dX9_mayBeUnder_47 : decode cX9_mayBeUnder 47 = .ok (.iconst 1, 1) := by decide +kernel
theorem dX9_mayBeUnder_48 : decode cX9_mayBeUnder 48 = .ok (.goto 4, 3) := by decide +kernel
theorem dX9_mayBeUnder_51 : decode cX9_mayBeUnder 51 = .ok (.iconst 0, 1) := by decide +kernel
theorem dX9_mayBeUnder_52 : decode cX9_mayBeUnder 52 = .ok (.ireturn, 1) := by decide +kernel
theorem dX9_step_0 : decode cX9_step 0 = .ok (.aload_n 0, 1) := by decide +kernel
theorem dX9_step_1 : decode cX9_step 1 = .ok (.getfield 19, 3) := by decide +kernel
theorem dX9_step_4 : decode cX9_step 4 = .ok (.aload_n 0, 1) := by decide +kernel
theorem dX9_step_5 : decode cX9_step 5 = .ok (.getfield 15, 3) := by decide +kernel
theorem dX9_step_8 : decode cX9_step 8 = .ok (.if_icmp .ge 30, 3) := by decide +kernel
theorem dX9_step_11 : decode cX9_step 11 = .ok (.aload_n 0, 1) := by decide +kernel
theorem dX9_step_12 : decode cX9_step 12 = .ok (.getfield 9, 3) := by decide +kernel
theorem dX9_step_15 : decode cX9_step 15 = .ok (.aload_n 0, 1) := by decide +kernel
theorem dX9_step_16 : decode cX9_step 16 = .ok (.getfield 19, 3) := by decide +kernel
theorem dX9_step_19 : decode cX9_step 19 = .ok (.iaload, 1) := by decide +kernel
theorem dX9_step_20 : decode cX9_step 20 = .ok (.bipush 32, 2) := by decide +kernel
theorem dX9_step_22 : decode cX9_step 22 = .ok (.if_icmp .ne 16, 3) := by decide +kernel
theorem dX9_step_25 : decode cX9_step 25 = .ok (.aload_n 0, 1) := by decide +kernel
theorem dX9_step_26 : decode cX9_step 26 = .ok (.dup, 1) := by decide +kernel
theorem dX9_step_27 : decode cX9_step 27 = .ok (.getfield 19, 3) := by decide +kernel
theorem dX9_step_30 : decode cX9_step 30 = .ok (.iconst 1, 1) := by decide +kernel
theorem dX9_step_31 : decode cX9_step 31 = .ok (.iadd, 1) := by decide +kernel
theorem dX9_step_32 : decode cX9_step 32 = .ok (.putfield 19, 3) := by decide +kernel
theorem dX9_step_35 : decode cX9_step 35 = .ok (.goto (-35), 3) := by decide +kernel
theorem dX9_step_38 : decode cX9_step 38 = .ok (.aload_n 0, 1) := by decide +kernel
theorem dX9_step_39 : decode cX9_step 39 = .ok (.aload_n 0, 1) := by decide +kernel
theorem dX9_step_40 : decode cX9_step 40 = .ok (.getfield 19, 3) := by decide +kernel
theorem dX9_step_43 : decode cX9_step 43 = .ok (.putfield 22, 3) := by decide +kernel
theorem dX9_step_46 : decode cX9_step 46 = .ok (.aload_n 0, 1) := by decide +kernel
theorem dX9_step_47 : decode cX9_step 47 = .ok (.getfield 19, 3) := by decide +kernel
theorem dX9_step_50 : decode cX9_step 50 = .ok (.aload_n 0, 1) := by decide +kernel
theorem dX9_step_51 : decode cX9_step 51 = .ok (.getfield 15, 3) := by decide +kernel
theorem dX9_step_54 : decode cX9_step 54 = .ok (.if_icmp .lt 11, 3) := by decide +kernel
theorem dX9_step_57 : decode cX9_step 57 = .ok (.aload_n 0, 1) := by decide +kernel
theorem dX9_step_58 : decode cX9_step 58 = .ok (.iconst 0, 1) := by decide +kernel
theorem dX9_step_59 : decode cX9_step 59 = .ok (.putfield 25, 3) := by decide +kernel
theorem dX9_step_62 : decode cX9_step 62 = .ok (.goto 67, 3) := by decide +kernel
theorem dX9_step_65 : decode cX9_step 65 = .ok (.aload_n 0, 1) := by decide +kernel
theorem dX9_step_66 : decode cX9_step 66 = .ok (.getfield 9, 3) := by decide +kernel
theorem dX9_step_69 : decode cX9_step 69 = .ok (.aload_n 0, 1) := by decide +kernel
theorem dX9_step_70 : decode cX9_step 70 = .ok (.getfield 19, 3) := by decide +kernel
theorem dX9_step_73 : decode cX9_step 73 = .ok (.iaload, 1) := by decide +kernel
theorem dX9_step_74 : decode cX9_step 74 = .ok (.invokestatic 95, 3) := by decide +kernel
theorem dX9_step_77 : decode cX9_step 77 = .ok (.ifCond .eq 10, 3) := by decide +kernel
theorem dX9_step_80 : decode cX9_step 80 = .ok (.aload_n 0, 1) := by decide +kernel
theorem dX9_step_81 : decode cX9_step 81 = .ok (.invokevirtual 98, 3) := by decide +kernel
theorem dX9_step_84 : decode cX9_step 84 = .ok (.goto 45, 3) := by decide +kernel
theorem dX9_step_87 : decode cX9_step 87 = .ok (.aload_n 0, 1) := by decide +kernel
theorem dX9_step_88 : decode cX9_step 88 = .ok (.aload_n 0, 1) := by decide +kernel
theorem dX9_step_89 : decode cX9_step 89 = .ok (.getfield 9, 3) := by decide +kernel
theorem dX9_step_92 : decode cX9_step 92 = .ok (.aload_n 0, 1) := by decide +kernel
theorem dX9_step_93 : decode cX9_step 93 = .ok (.getfield 19, 3) := by decide +kernel
theorem dX9_step_96 : decode cX9_step 96 = .ok (.iaload, 1) := by decide +kernel
theorem dX9_step_97 : decode cX9_step 97 = .ok (.invokestatic 101, 3) := by decide +kernel
theorem dX9_step_100 : decode cX9_step 100 = .ok (.ifCond .eq 15, 3) := by decide +kernel
theorem dX9_step_103 : decode cX9_step 103 = .ok (.aload_n 0, 1) := by decide +kernel
theorem dX9_step_104 : decode cX9_step 104 = .ok (.getfield 9, 3) := by decide +kernel
theorem dX9_step_107 : decode cX9_step 107 = .ok (.aload_n 0, 1) := by decide +kernel
theorem dX9_step_108 : decode cX9_step 108 = .ok (.getfield 19, 3) := by decide +kernel
theorem dX9_step_111 : decode cX9_step 111 = .ok (.iaload, 1) := by decide +kernel
theorem dX9_step_112 : decode cX9_step 112 = .ok (.goto 4, 3) := by decide +kernel
theorem dX9_step_115 : decode cX9_step 115 = .ok (.iconst 2, 1) := by decide +kernel
theorem dX9_step_116 : decode cX9_step 116 = .ok (.putfield 25, 3) := by decide +kernel
theorem dX9_step_119 : decode cX9_step 119 = .ok (.aload_n 0, 1) := by decide +kernel
theorem dX9_step_120 : decode cX9_step 120 = .ok (.dup, 1) := by decide +kernel
theorem dX9_step_121 : decode cX9_step 121 = .ok (.getfield 19, 3) := by decide +kernel
theorem dX9_step_124 : decode cX9_step 124 = .ok (.iconst 1, 1) := by decide +kernel
theorem dX9_step_125 : decode cX9_step 125 = .ok (.iadd, 1) := by decide +kernel
theorem dX9_step_126 : decode cX9_step 126 = .ok (.putfield 19, 3) := by decide +kernel
theorem dX9_step_129 : decode cX9_step 129 = .ok (.return_, 1) := by decide +kernel
theorem dX9_stepOverNumber_0 : decode cX9_stepOverNumber 0 = .ok (.aload_n 0, 1) := by decide +kernel
theorem dX9_stepOverNumber_1 : decode cX9_stepOverNumber 1 = .ok (.iconst 0, 1) := by decide +kernel
theorem dX9_stepOverNumber_2 : decode cX9_stepOverNumber 2 = .ok (.putfield 28, 3) := by decide +kernel
theorem dX9_stepOverNumber_5 : decode cX9_stepOverNumber 5 = .ok (.aload_n 0, 1) := by decide +kernel
theorem dX9_stepOverNumber_6 : decode cX9_stepOverNumber 6 = .ok (.getfield 19, 3) := by decide +kernel
theorem dX9_stepOverNumber_9 : decode cX9_stepOverNumber 9 = .ok (.aload_n 0, 1) := by decide +kernel
theorem dX9_stepOverNumber_10 : decode cX9_stepOverNumber 10 = .ok (.getfield 15, 3) := by decide +kernel
theorem dX9_stepOverNumber_13 : decode cX9_stepOverNumber 13 = .ok (.if_icmp .ge 55, 3) := by decide +kernel
theorem dX9_stepOverNumber_16 : decode cX9_stepOverNumber 16 = .ok (.aload_n 0, 1) := by decide +kernel
theorem dX9_stepOverNumber_17 : decode cX9_stepOverNumber 17 = .ok (.getfield 9, 3) := by decide +kernel
theorem dX9_stepOverNumber_20 : decode cX9_stepOverNumber 20 = .ok (.aload_n 0, 1) := by decide +kernel
theorem dX9_stepOverNumber_21 : decode cX9_stepOverNumber 21 = .ok (.getfield 19, 3) := by decide +kernel
theorem dX9_stepOverNumber_24 : decode cX9_stepOverNumber 24 = .ok (.iaload, 1) := by decide +kernel
theorem dX9_stepOverNumber_25 : decode cX9_stepOverNumber 25 = .ok (.invokestatic 95, 3) := by decide +kernel
theorem dX9_stepOverNumber_28 : decode cX9_stepOverNumber 28 = .ok (.ifCond .eq 40, 3) := by decide +kernel
theorem dX9_stepOverNumber_31 : decode cX9_stepOverNumber 31 = .ok (.aload_n 0, 1) := by decide +kernel
theorem dX9_stepOverNumber_32 : decode cX9_stepOverNumber 32 = .ok (.aload_n 0, 1) := by decide +kernel
theorem dX9_stepOverNumber_33 : decode cX9_stepOverNumber 33 = .ok (.getfield 28, 3) := by decide +kernel
theorem dX9_stepOverNumber_36 : decode cX9_stepOverNumber 36 = .ok (.bipush 10, 2) := by decide +kernel
theorem dX9_stepOverNumber_38 : decode cX9_stepOverNumber 38 = .ok (.imul, 1) := by decide +kernel
theorem dX9_stepOverNumber_39 : decode cX9_stepOverNumber 39 = .ok (.aload_n 0, 1) := by decide +kernel
theorem dX9_stepOverNumber_40 : decode cX9_stepOverNumber 40 = .ok (.getfield 9, 3) := by decide +kernel
theorem dX9_stepOverNumber_43 : decode cX9_stepOverNumber 43 = .ok (.aload_n 0, 1) := by decide +kernel
theorem dX9_stepOverNumber_44 : decode cX9_stepOverNumber 44 = .ok (.getfield 19, 3) := by decide +kernel
theorem dX9_stepOverNumber_47 : decode cX9_stepOverNumber 47 = .ok (.iaload, 1) := by decide +kernel
theorem dX9_stepOverNumber_48 : decode cX9_stepOverNumber 48 = .ok (.iadd, 1) := by decide +kernel
theorem dX9_stepOverNumber_49 : decode cX9_stepOverNumber 49 = .ok (.bipush 48, 2) := by decide +kernel
theorem dX9_stepOverNumber_51 : decode cX9_stepOverNumber 51 = .ok (.isub, 1) := by decide +kernel
theorem dX9_stepOverNumber_52 : decode cX9_stepOverNumber 52 = .ok (.putfield 28, 3) := by decide +kernel
theorem dX9_stepOverNumber_55 : decode cX9_stepOverNumber 55 = .ok (.aload_n 0, 1) := by decide +kernel
theorem dX9_stepOverNumber_56 : decode cX9_stepOverNumber 56 = .ok (.dup, 1) := by decide +kernel
theorem dX9_stepOverNumber_57 : decode cX9_stepOverNumber 57 = .ok (.getfield 19, 3) := by decide +kernel
theorem dX9_stepOverNumber_60 : decode cX9_stepOverNumber 60 = .ok (.iconst 1, 1) := by decide +kernel
theorem dX9_stepOverNumber_61 : decode cX9_stepOverNumber 61 = .ok (.iadd, 1) := by decide +kernel
theorem dX9_stepOverNumber_62 : decode cX9_stepOverNumber 62 = .ok (.putfield 19, 3) := by decide +kernel
theorem dX9_stepOverNumber_65 : decode cX9_stepOverNumber 65 = .ok (.goto (-60), 3) := by decide +kernel
theorem dX9_stepOverNumber_68 : decode cX9_stepOverNumber 68 = .ok (.aload_n 0, 1) := by decide +kernel
theorem dX9_stepOverNumber_69 : decode cX9_stepOverNumber 69 = .ok (.getfield 19, 3) := by decide +kernel
theorem dX9_stepOverNumber_72 : decode cX9_stepOverNumber 72 = .ok (.aload_n 0, 1) := by decide +kernel
theorem dX9_stepOverNumber_73 : decode cX9_stepOverNumber 73 = .ok (.getfield 22, 3) := by decide +kernel
theorem dX9_stepOverNumber_76 : decode cX9_stepOverNumber 76 = .ok (.isub, 1) := by decide +kernel
theorem dX9_stepOverNumber_77 : decode cX9_stepOverNumber 77 = .ok (.istore_n 1, 1) := by decide +kernel
theorem dX9_stepOverNumber_78 : decode cX9_stepOverNumber 78 = .ok (.iload_n 1, 1) := by decide +kernel
theorem dX9_stepOverNumber_79 : decode cX9_stepOverNumber 79 = .ok (.iconst 1, 1) := by decide +kernel
theorem dX9_stepOverNumber_80 : decode cX9_stepOverNumber 80 = .ok (.if_icmp .eq 22, 3) := by decide +kernel
theorem dX9_stepOverNumber_83 : decode cX9_stepOverNumber 83 = .ok (.iload_n 1, 1) := by decide +kernel
theorem dX9_stepOverNumber_84 : decode cX9_stepOverNumber 84 = .ok (.iconst 2, 1) := by decide +kernel
theorem dX9_stepOverNumber_85 : decode cX9_stepOverNumber 85 = .ok (.if_icmp .ne 21, 3) := by decide +kernel
theorem dX9_stepOverNumber_88 : decode cX9_stepOverNumber 88 = .ok (.aload_n 0, 1) := by decide +kernel
theorem dX9_stepOverNumber_89 : decode cX9_stepOverNumber 89 = .ok (.getfield 9, 3) := by decide +kernel
theorem dX9_stepOverNumber_92 : decode cX9_stepOverNumber 92 = .ok (.aload_n 0, 1) := by decide +kernel
theorem dX9_stepOverNumber_93 : decode cX9_stepOverNumber 93 = .ok (.getfield 22, 3) := by decide +kernel
theorem dX9_stepOverNumber_96 : decode cX9_stepOverNumber 96 = .ok (.iaload, 1) := by decide +kernel
theorem dX9_stepOverNumber_97 : decode cX9_stepOverNumber 97 = .ok (.bipush 48, 2) := by decide +kernel
theorem dX9_stepOverNumber_99 : decode cX9_stepOverNumber 99 = .ok (.if_icmp .eq 7, 3) := by decide +kernel
theorem dX9_stepOverNumber_102 : decode cX9_stepOverNumber 102 = .ok (.iconst 1, 1) := by decide +kernel
theorem dX9_stepOverNumber_103 : decode cX9_stepOverNumber 103 = .ok (.goto 4, 3) := by decide +kernel
theorem dX9_stepOverNumber_106 : decode cX9_stepOverNumber 106 = .ok (.iconst 0, 1) := by decide +kernel
theorem dX9_stepOverNumber_107 : decode cX9_stepOverNumber 107 = .ok (.istore_n 2, 1) := by decide +kernel
theorem dX9_stepOverNumber_108 : decode cX9_stepOverNumber 108 = .ok (.aload_n 0, 1) := by decide +kernel
theorem dX9_stepOverNumber_109 : decode cX9_stepOverNumber 109 = .ok (.iload_n 2, 1) := by decide +kernel
theorem dX9_stepOverNumber_110 : decode cX9_stepOverNumber 110 = .ok (.ifCond .eq 7, 3) := by decide +kernel
theorem dX9_stepOverNumber_113 : decode cX9_stepOverNumber 113 = .ok (.iconst 1, 1) := by decide +kernel
theorem dX9_stepOverNumber_114 : decode cX9_stepOverNumber 114 = .ok (.goto 4, 3) := by decide +kernel
theorem dX9_stepOverNumber_117 : decode cX9_stepOverNumber 117 = .ok (.iconst 2, 1) := by decide +kernel
theorem dX9_stepOverNumber_118 : decode cX9_stepOverNumber 118 = .ok (.putfield 25, 3) := by decide +kernel
theorem dX9_stepOverNumber_121 : decode cX9_stepOverNumber 121 = .ok (.return_, 1) := by decide +kernel
theorem dX9_isDigit_0 : decode cX9_isDigit 0 = .ok (.iload_n 0, 1) := by decide +kernel
theorem dX9_isDigit_1 : decode cX9_isDigit 1 = .ok (.bipush 48, 2) := by decide +kernel
theorem dX9_isDigit_3 : decode cX9_isDigit 3 = .ok (.bipush 57, 2) := by decide +kernel
theorem dX9_isDigit_5 : decode cX9_isDigit 5 = .ok (.invokestatic 74, 3) := by decide +kernel
theorem dX9_isDigit_8 : decode cX9_isDigit 8 = .ok (.ireturn, 1) := by decide +kernel
theorem dX9_isMark_0 : decode cX9_isMark 0 = .ok (.iload_n 0, 1) := by decide +kernel
theorem dX9_isMark_1 : decode cX9_isMark 1 = .ok (.bipush 98, 2) := by decide +kernel
theorem dX9_isMark_3 : decode cX9_isMark 3 = .ok (.if_icmp .eq 21, 3) := by decide +kernel
theorem dX9_isMark_6 : decode cX9_isMark 6 = .ok (.iload_n 0, 1) := by decide +kernel
theorem dX9_isMark_7 : decode cX9_isMark 7 = .ok (.bipush 112, 2) := by decide +kernel
theorem dX9_isMark_9 : decode cX9_isMark 9 = .ok (.if_icmp .eq 15, 3) := by decide +kernel
theorem dX9_isMark_12 : decode cX9_isMark 12 = .ok (.iload_n 0, 1) := by decide +kernel
theorem dX9_isMark_13 : decode cX9_isMark 13 = .ok (.bipush 99, 2) := by decide +kernel
theorem dX9_isMark_15 : decode cX9_isMark 15 = .ok (.if_icmp .eq 9, 3) := by decide +kernel
theorem dX9_isMark_18 : decode cX9_isMark 18 = .ok (.iload_n 0, 1) := by decide +kernel
theorem dX9_isMark_19 : decode cX9_isMark 19 = .ok (.bipush 59, 2) := by decide +kernel
theorem dX9_isMark_21 : decode cX9_isMark 21 = .ok (.if_icmp .ne 7, 3) := by decide +kernel
theorem dX9_isMark_24 : decode cX9_isMark 24 = .ok (.iconst 1, 1) := by decide +kernel
theorem dX9_isMark_25 : decode cX9_isMark 25 = .ok (.goto 4, 3) := by decide +kernel
theorem dX9_isMark_28 : decode cX9_isMark 28 = .ok (.iconst 0, 1) := by decide +kernel
theorem dX9_isMark_29 : decode cX9_isMark 29 = .ok (.ireturn, 1) := by decide +kernel
theorem dX10_init_0 : decode cX10_init 0 = .ok (.aload_n 0, 1) := by decide +kernel
theorem dX10_init_1 : decode cX10_init 1 = .ok (.invokespecial 3, 3) := by decide +kernel
theorem dX10_init_4 : decode cX10_init 4 = .ok (.aload_n 0, 1) := by decide +kernel
theorem dX10_init_5 : decode cX10_init 5 = .ok (.iconst 0, 1) := by decide +kernel
theorem dX10_init_6 : decode cX10_init 6 = .ok (.putfield 9, 3) := by decide +kernel
theorem dX10_init_9 : decode cX10_init 9 = .ok (.aload_n 0, 1) := by decide +kernel
theorem dX10_init_10 : decode cX10_init 10 = .ok (.iconst 0, 1) := by decide +kernel
theorem dX10_init_11 : decode cX10_init 11 = .ok (.putfield 15, 3) := by decide +kernel
theorem dX10_init_14 : decode cX10_init 14 = .ok (.aload_n 0, 1) := by decide +kernel
theorem dX10_init_15 : decode cX10_init 15 = .ok (.iconst 0, 1) := by decide +kernel
theorem dX10_init_16 : decode cX10_init 16 = .ok (.putfield 18, 3) := by decide +kernel
theorem dX10_init_19 : decode cX10_init 19 = .ok (.aload_n 0, 1) := by decide +kernel
theorem dX10_init_20 : decode cX10_init 20 = .ok (.bipush 8, 2) := by decide +kernel
theorem dX10_init_22 : decode cX10_init 22 = .ok (.newarray .int, 2) := by decide +kernel
theorem dX10_init_24 : decode cX10_init 24 = .ok (.putfield 21, 3) := by decide +kernel
theorem dX10_init_27 : decode cX10_init 27 = .ok (.aload_n 0, 1) := by decide +kernel
theorem dX10_init_28 : decode cX10_init 28 = .ok (.bipush 8, 2) := by decide +kernel
theorem dX10_init_30 : decode cX10_init 30 = .ok (.newarray .int, 2) := by decide +kernel
theorem dX10_init_32 : decode cX10_init 32 = .ok (.putfield 25, 3) := by decide +kernel
theorem dX10_init_35 : decode cX10_init 35 = .ok (.aload_n 0, 1) := by decide +kernel
theorem dX10_init_36 : decode cX10_init 36 = .ok (.bipush 8, 2) := by decide +kernel
theorem dX10_init_38 : decode cX10_init 38 = .ok (.newarray .int, 2) := by decide +kernel
theorem dX10_init_40 : decode cX10_init 40 = .ok (.putfield 28, 3) := by decide +kernel
theorem dX10_init_43 : decode cX10_init 43 = .ok (.aload_n 0, 1) := by decide +kernel
theorem dX10_init_44 : decode cX10_init 44 = .ok (.bipush 6, 2) := by decide +kernel
theorem dX10_init_46 : decode cX10_init 46 = .ok (.newarray .int, 2) := by decide +kernel
theorem dX10_init_48 : decode cX10_init 48 = .ok (.putfield 31, 3) := by decide +kernel
theorem dX10_init_51 : decode cX10_init 51 = .ok (.aload_n 0, 1) := by decide +kernel
theorem dX10_init_52 : decode cX10_init 52 = .ok (.bipush 12, 2) := by decide +kernel
theorem dX10_init_54 : decode cX10_init 54 = .ok (.newarray .int, 2) := by decide +kernel
theorem dX10_init_56 : decode cX10_init 56 = .ok (.putfield 34, 3) := by decide +kernel
theorem dX10_init_59 : decode cX10_init 59 = .ok (.aload_n 0, 1) := by decide +kernel
theorem dX10_init_60 : decode cX10_init 60 = .ok (.bipush 12, 2) := by decide +kernel
theorem dX10_init_62 : decode cX10_init 62 = .ok (.newarray .int, 2) := by decide +kernel
theorem dX10_init_64 : decode cX10_init 64 = .ok (.putfield 37, 3) := by decide +kernel
theorem dX10_init_67 : decode cX10_init 67 = .ok (.aload_n 0, 1) := by decide +kernel
theorem dX10_init_68 : decode cX10_init 68 = .ok (.iconst 5, 1) := by decide +kernel
theorem dX10_init_69 : decode cX10_init 69 = .ok (.newarray .int, 2) := by decide +kernel
theorem dX10_init_71 : decode cX10_init 71 = .ok (.putfield 40, 3) := by decide +kernel
theorem dX10_init_74 : decode cX10_init 74 = .ok (.aload_n 0, 1) := by decide +kernel
theorem dX10_init_75 : decode cX10_init 75 = .ok (.iconst 5, 1) := by decide +kernel
theorem dX10_init_76 : decode cX10_init 76 = .ok (.newarray .int, 2) := by decide +kernel
theorem dX10_init_78 : decode cX10_init 78 = .ok (.putfield 43, 3) := by decide +kernel
theorem dX10_init_81 : decode cX10_init 81 = .ok (.return_, 1) := by decide +kernel
theorem dX10_strip_0 : decode cX10_strip 0 = .ok (.aload_n 0, 1) := by decide +kernel
theorem dX10_strip_1 : decode cX10_strip 1 = .ok (.iconst 0, 1) := by decide +kernel
theorem dX10_strip_2 : decode cX10_strip 2 = .ok (.putfield 9, 3) := by decide +kernel
theorem dX10_strip_5 : decode cX10_strip 5 = .ok (.aload_n 0, 1) := by decide +kernel
theorem dX10_strip_6 : decode cX10_strip 6 = .ok (.iconst 0, 1) := by decide +kernel
theorem dX10_strip_7 : decode cX10_strip 7 = .ok (.putfield 15, 3) := by decide +kernel
theorem dX10_strip_10 : decode cX10_strip 10 = .ok (.aload_n 0, 1) := by decide +kernel
theorem dX10_strip_11 : decode cX10_strip 11 = .ok (.iconst 0, 1) := by decide +kernel
theorem dX10_strip_12 : decode cX10_strip 12 = .ok (.putfield 18, 3) := by decide +kernel
theorem dX10_strip_15 : decode cX10_strip 15 = .ok (.return_, 1) := by decide +kernel
theorem dX10_hasRoomFor_0 : decode cX10_hasRoomFor 0 = .ok (.iload_n 1, 1) := by decide +kernel
theorem dX10_hasRoomFor_1 : decode cX10_hasRoomFor 1 = .ok (.lookupswitch 79 #[(98, 35), (99, 65), (112, 50)], 35) := by decide +kernel
theorem dX10_hasRoomFor_36 : decode cX10_hasRoomFor 36 = .ok (.aload_n 0, 1) := by decide +kernel
theorem dX10_hasRoomFor_37 : decode cX10_hasRoomFor 37 = .ok (.getfield 9, 3) := by decide +kernel
theorem dX10_hasRoomFor_40 : decode cX10_hasRoomFor 40 = .ok (.bipush 8, 2) := by decide +kernel
theorem dX10_hasRoomFor_42 : decode cX10_hasRoomFor 42 = .ok (.if_icmp .ge 7, 3) := by decide +kernel
theorem dX10_hasRoomFor_45 : decode cX10_hasRoomFor 45 = .ok (.iconst 1, 1) := by decide +kernel
theorem dX10_hasRoomFor_46 : decode cX10_hasRoomFor 46 = .ok (.goto 4, 3) := by decide +kernel
theorem dX10_hasRoomFor_49 : decode cX10_hasRoomFor 49 = .ok (.iconst 0, 1) := by decide +kernel
theorem dX10_hasRoomFor_50 : decode cX10_hasRoomFor 50 = .ok (.ireturn, 1) := by decide +kernel
theorem dX10_hasRoomFor_51 : decode cX10_hasRoomFor 51 = .ok (.aload_n 0, 1) := by decide +kernel
theorem dX10_hasRoomFor_52 : decode cX10_hasRoomFor 52 = .ok (.getfield 15, 3) := by decide +kernel
theorem dX10_hasRoomFor_55 : decode cX10_hasRoomFor 55 = .ok (.bipush 6, 2) := by decide +kernel
theorem dX10_hasRoomFor_57 : decode cX10_hasRoomFor 57 = .ok (.if_icmp .ge 7, 3) := by decide +kernel
theorem dX10_hasRoomFor_60 : decode cX10_hasRoomFor 60 = .ok (.iconst 1, 1) := by decide +kernel
theorem dX10_hasRoomFor_61 : decode cX10_hasRoomFor 61 = .ok (.goto 4, 3) := by decide +kernel
theorem dX10_hasRoomFor_64 : decode cX10_hasRoomFor 64 = .ok (.iconst 0, 1) := by decide +kernel
theorem dX10_hasRoomFor_65 : decode cX10_hasRoomFor 65 = .ok (.ireturn, 1) := by decide +kernel
theorem dX10_hasRoomFor_66 : decode cX10_hasRoomFor 66 = .ok (.aload_n 0, 1) := by decide +kernel
theorem dX10_hasRoomFor_67 : decode cX10_hasRoomFor 67 = .ok (.getfield 18, 3) := by decide +kernel
theorem dX10_hasRoomFor_70 : decode cX10_hasRoomFor 70 = .ok (.iconst 5, 1) := by decide +kernel
theorem dX10_hasRoomFor_71 : decode cX10_hasRoomFor 71 = .ok (.if_icmp .ge 7, 3) := by decide +kernel
theorem dX10_hasRoomFor_74 : decode cX10_hasRoomFor 74 = .ok (.iconst 1, 1) := by decide +kernel
theorem dX10_hasRoomFor_75 : decode cX10_hasRoomFor 75 = .ok (.goto 4, 3) := by decide +kernel
theorem dX10_hasRoomFor_78 : decode cX10_hasRoomFor 78 = .ok (.iconst 0, 1) := by decide +kernel
theorem dX10_hasRoomFor_79 : decode cX10_hasRoomFor 79 = .ok (.ireturn, 1) := by decide +kernel
theorem dX10_hasRoomFor_80 : decode cX10_hasRoomFor 80 = .ok (.iconst 0, 1) := by decide +kernel
theorem dX10_hasRoomFor_81 : decode cX10_hasRoomFor 81 = .ok (.ireturn, 1) := by decide +kernel
theorem dX10_take_0 : decode cX10_take 0 = .ok (.aload_n 0, 1) := by decide +kernel
theorem dX10_take_1 : decode cX10_take 1 = .ok (.iload_n 1, 1) := by decide +kernel
theorem dX10_take_2 : decode cX10_take 2 = .ok (.invokevirtual 46, 3) := by decide +kernel
theorem dX10_take_5 : decode cX10_take 5 = .ok (.ifCond .eq 9, 3) := by decide +kernel
theorem dX10_take_8 : decode cX10_take 8 = .ok (.aload_n 2, 1) := by decide +kernel
theorem dX10_take_9 : decode cX10_take 9 = .ok (.arraylength, 1) := by decide +kernel
theorem dX10_take_10 : decode cX10_take 10 = .ok (.iconst 5, 1) := by decide +kernel
theorem dX10_take_11 : decode cX10_take 11 = .ok (.if_icmp .ge 4, 3) := by decide +kernel
theorem dX10_take_14 : decode cX10_take 14 = .ok (.return_, 1) := by decide +kernel
theorem dX10_take_15 : decode cX10_take 15 = .ok (.iload_n 1, 1) := by decide +kernel
theorem dX10_take_16 : decode cX10_take 16 = .ok (.bipush 98, 2) := by decide +kernel
theorem dX10_take_18 : decode cX10_take 18 = .ok (.if_icmp .ne 52, 3) := by decide +kernel
theorem dX10_take_21 : decode cX10_take 21 = .ok (.aload_n 0, 1) := by decide +kernel
theorem dX10_take_22 : decode cX10_take 22 = .ok (.getfield 21, 3) := by decide +kernel
theorem dX10_take_25 : decode cX10_take 25 = .ok (.aload_n 0, 1) := by decide +kernel
theorem dX10_take_26 : decode cX10_take 26 = .ok (.getfield 9, 3) := by decide +kernel
theorem dX10_take_29 : decode cX10_take 29 = .ok (.aload_n 2, 1) := by decide +kernel
theorem dX10_take_30 : decode cX10_take 30 = .ok (.iconst 0, 1) := by decide +kernel
theorem dX10_take_31 : decode cX10_take 31 = .ok (.iaload, 1) := by decide +kernel
theorem dX10_take_32 : decode cX10_take 32 = .ok (.iastore, 1) := by decide +kernel
theorem dX10_take_33 : decode cX10_take 33 = .ok (.aload_n 0, 1) := by decide +kernel
theorem dX10_take_34 : decode cX10_take 34 = .ok (.getfield 25, 3) := by decide +kernel
theorem dX10_take_37 : decode cX10_take 37 = .ok (.aload_n 0, 1) := by decide +kernel
theorem dX10_take_38 : decode cX10_take 38 = .ok (.getfield 9, 3) := by decide +kernel
theorem dX10_take_41 : decode cX10_take 41 = .ok (.aload_n 2, 1) := by decide +kernel
theorem dX10_take_42 : decode cX10_take 42 = .ok (.iconst 1, 1) := by decide +kernel
theorem dX10_take_43 : decode cX10_take 43 = .ok (.iaload, 1) := by decide +kernel
theorem dX10_take_44 : decode cX10_take 44 = .ok (.iastore, 1) := by decide +kernel
theorem dX10_take_45 : decode cX10_take 45 = .ok (.aload_n 0, 1) := by decide +kernel
theorem dX10_take_46 : decode cX10_take 46 = .ok (.getfield 28, 3) := by decide +kernel
theorem dX10_take_49 : decode cX10_take 49 = .ok (.aload_n 0, 1) := by decide +kernel
theorem dX10_take_50 : decode cX10_take 50 = .ok (.getfield 9, 3) := by decide +kernel
theorem dX10_take_53 : decode cX10_take 53 = .ok (.aload_n 2, 1) := by decide +kernel
theorem dX10_take_54 : decode cX10_take 54 = .ok (.iconst 2, 1) := by decide +kernel
theorem dX10_take_55 : decode cX10_take 55 = .ok (.iaload, 1) := by decide +kernel
theorem dX10_take_56 : decode cX10_take 56 = .ok (.iastore, 1) := by decide +kernel
theorem dX10_take_57 : decode cX10_take 57 = .ok (.aload_n 0, 1) := by decide +kernel
theorem dX10_take_58 : decode cX10_take 58 = .ok (.dup, 1) := by decide +kernel
theorem dX10_take_59 : decode cX10_take 59 = .ok (.getfield 9, 3) := by decide +kernel
theorem dX10_take_62 : decode cX10_take 62 = .ok (.iconst 1, 1) := by decide +kernel
theorem dX10_take_63 : decode cX10_take 63 = .ok (.iadd, 1) := by decide +kernel
theorem dX10_take_64 : decode cX10_take 64 = .ok (.putfield 9, 3) := by decide +kernel
theorem dX10_take_67 : decode cX10_take 67 = .ok (.goto 128, 3) := by decide +kernel
theorem dX10_take_70 : decode cX10_take 70 = .ok (.iload_n 1, 1) := by decide +kernel
theorem dX10_take_71 : decode cX10_take 71 = .ok (.bipush 112, 2) := by decide +kernel
theorem dX10_take_73 : decode cX10_take 73 = .ok (.if_icmp .ne 88, 3) := by decide +kernel
theorem dX10_take_76 : decode cX10_take 76 = .ok (.aload_n 0, 1) := by decide +kernel
theorem dX10_take_77 : decode cX10_take 77 = .ok (.getfield 34, 3) := by decide +kernel
theorem dX10_take_80 : decode cX10_take 80 = .ok (.iconst 2, 1) := by decide +kernel
theorem dX10_take_81 : decode cX10_take 81 = .ok (.aload_n 0, 1) := by decide +kernel
theorem dX10_take_82 : decode cX10_take 82 = .ok (.getfield 15, 3) := by decide +kernel
theorem dX10_take_85 : decode cX10_take 85 = .ok (.imul, 1) := by decide +kernel
theorem dX10_take_86 : decode cX10_take 86 = .ok (.aload_n 2, 1) := by decide +kernel
theorem dX10_take_87 : decode cX10_take 87 = .ok (.iconst 0, 1) := by decide +kernel
theorem dX10_take_88 : decode cX10_take 88 = .ok (.iaload, 1) := by decide +kernel
theorem dX10_take_89 : decode cX10_take 89 = .ok (.iastore, 1) := by decide +kernel
theorem dX10_take_90 : decode cX10_take 90 = .ok (.aload_n 0, 1) := by decide +kernel
theorem dX10_take_91 : decode cX10_take 91 = .ok (.getfield 34, 3) := by decide +kernel
theorem dX10_take_94 : decode cX10_take 94 = .ok (.iconst 2, 1) := by decide +kernel
theorem dX10_take_95 : decode cX10_take 95 = .ok (.aload_n 0, 1) := by decide +kernel
theorem dX10_take_96 : decode cX10_take 96 = .ok (.getfield 15, 3) := by decide +kernel
theorem dX10_take_99 : decode cX10_take 99 = .ok (.imul, 1) := by decide +kernel
theorem dX10_take_100 : decode cX10_take 100 = .ok (.iconst 1, 1) := by decide +kernel
theorem dX10_take_101 : decode cX10_take 101 = .ok (.iadd, 1) := by decide +kernel
theorem dX10_take_102 : decode cX10_take 102 = .ok (.aload_n 2, 1) := by decide +kernel
theorem dX10_take_103 : decode cX10_take 103 = .ok (.iconst 1, 1) := by decide +kernel
theorem dX10_take_104 : decode cX10_take 104 = .ok (.iaload, 1) := by decide +kernel
theorem dX10_take_105 : decode cX10_take 105 = .ok (.iastore, 1) := by decide +kernel
theorem dX10_take_106 : decode cX10_take 106 = .ok (.aload_n 0, 1) := by decide +kernel
theorem dX10_take_107 : decode cX10_take 107 = .ok (.getfield 31, 3) := by decide +kernel
theorem dX10_take_110 : decode cX10_take 110 = .ok (.aload_n 0, 1) := by decide +kernel
theorem dX10_take_111 : decode cX10_take 111 = .ok (.getfield 15, 3) := by decide +kernel
theorem dX10_take_114 : decode cX10_take 114 = .ok (.aload_n 2, 1) := by decide +kernel
theorem dX10_take_115 : decode cX10_take 115 = .ok (.iconst 2, 1) := by decide +kernel
theorem dX10_take_116 : decode cX10_take 116 = .ok (.iaload, 1) := by decide +kernel
theorem dX10_take_117 : decode cX10_take 117 = .ok (.iastore, 1) := by decide +kernel
theorem dX10_take_118 : decode cX10_take 118 = .ok (.aload_n 0, 1) := by decide +kernel
theorem dX10_take_119 : decode cX10_take 119 = .ok (.getfield 37, 3) := by decide +kernel
theorem dX10_take_122 : decode cX10_take 122 = .ok (.iconst 2, 1) := by decide +kernel
theorem dX10_take_123 : decode cX10_take 123 = .ok (.aload_n 0, 1) := by decide +kernel
theorem dX10_take_124 : decode cX10_take 124 = .ok (.getfield 15, 3) := by decide +kernel
theorem dX10_take_127 : decode cX10_take 127 = .ok (.imul, 1) := by decide +kernel
theorem dX10_take_128 : decode cX10_take 128 = .ok (.aload_n 2, 1) := by decide +kernel
theorem dX10_take_129 : decode cX10_take 129 = .ok (.iconst 3, 1) := by decide +kernel
theorem dX10_take_130 : decode cX10_take 130 = .ok (.iaload, 1) := by decide +kernel
theorem dX10_take_131 : decode cX10_take 131 = .ok (.iastore, 1) := by decide +kernel
theorem dX10_take_132 : decode cX10_take 132 = .ok (.aload_n 0, 1) := by decide +kernel
theorem dX10_take_133 : decode cX10_take 133 = .ok (.getfield 37, 3) := by decide +kernel
theorem dX10_take_136 : decode cX10_take 136 = .ok (.iconst 2, 1) := by decide +kernel
theorem dX10_take_137 : decode cX10_take 137 = .ok (.aload_n 0, 1) := by decide +kernel
theorem dX10_take_138 : decode cX10_take 138 = .ok (.getfield 15, 3) := by decide +kernel
theorem dX10_take_141 : decode cX10_take 141 = .ok (.imul, 1) := by decide +kernel
theorem dX10_take_142 : decode cX10_take 142 = .ok (.iconst 1, 1) := by decide +kernel
theorem dX10_take_143 : decode cX10_take 143 = .ok (.iadd, 1) := by decide +kernel
theorem dX10_take_144 : decode cX10_take 144 = .ok (.aload_n 2, 1) := by decide +kernel
theorem dX10_take_145 : decode cX10_take 145 = .ok (.iconst 4, 1) := by decide +kernel
theorem dX10_take_146 : decode cX10_take 146 = .ok (.iaload, 1) := by decide +kernel
theorem dX10_take_147 : decode cX10_take 147 = .ok (.iastore, 1) := by decide +kernel
theorem dX10_take_148 : decode cX10_take 148 = .ok (.aload_n 0, 1) := by decide +kernel
theorem dX10_take_149 : decode cX10_take 149 = .ok (.dup, 1) := by decide +kernel
theorem dX10_take_150 : decode cX10_take 150 = .ok (.getfield 15, 3) := by decide +kernel
theorem dX10_take_153 : decode cX10_take 153 = .ok (.iconst 1, 1) := by decide +kernel
theorem dX10_take_154 : decode cX10_take 154 = .ok (.iadd, 1) := by decide +kernel
theorem dX10_take_155 : decode cX10_take 155 = .ok (.putfield 15, 3) := by decide +kernel
theorem dX10_take_158 : decode cX10_take 158 = .ok (.goto 37, 3) := by decide +kernel
theorem dX10_take_161 : decode cX10_take 161 = .ok (.aload_n 0, 1) := by decide +kernel
theorem dX10_take_162 : decode cX10_take 162 = .ok (.getfield 40, 3) := by decide +kernel
theorem dX10_take_165 : decode cX10_take 165 = .ok (.aload_n 0, 1) := by decide +kernel
theorem dX10_take_166 : decode cX10_take 166 = .ok (.getfield 18, 3) := by decide +kernel
theorem dX10_take_169 : decode cX10_take 169 = .ok (.aload_n 2, 1) := by decide +kernel
theorem dX10_take_170 : decode cX10_take 170 = .ok (.iconst 0, 1) := by decide +kernel
theorem dX10_take_171 : decode cX10_take 171 = .ok (.iaload, 1) := by decide +kernel
theorem dX10_take_172 : decode cX10_take 172 = .ok (.iastore, 1) := by decide +kernel
theorem dX10_take_173 : decode cX10_take 173 = .ok (.aload_n 0, 1) := by decide +kernel
theorem dX10_take_174 : decode cX10_take 174 = .ok (.getfield 43, 3) := by decide +kernel
theorem dX10_take_177 : decode cX10_take 177 = .ok (.aload_n 0, 1) := by decide +kernel
theorem dX10_take_178 : decode cX10_take 178 = .ok (.getfield 18, 3) := by decide +kernel
theorem dX10_take_181 : decode cX10_take 181 = .ok (.aload_n 2, 1) := by decide +kernel
theorem dX10_take_182 : decode cX10_take 182 = .ok (.iconst 1, 1) := by decide +kernel
theorem dX10_take_183 : decode cX10_take 183 = .ok (.iaload, 1) := by decide +kernel
theorem dX10_take_184 : decode cX10_take 184 = .ok (.iastore, 1) := by decide +kernel
theorem dX10_take_185 : decode cX10_take 185 = .ok (.aload_n 0, 1) := by decide +kernel
theorem dX10_take_186 : decode cX10_take 186 = .ok (.dup, 1) := by decide +kernel
theorem dX10_take_187 : decode cX10_take 187 = .ok (.getfield 18, 3) := by decide +kernel
theorem dX10_take_190 : decode cX10_take 190 = .ok (.iconst 1, 1) := by decide +kernel
theorem dX10_take_191 : decode cX10_take 191 = .ok (.iadd, 1) := by decide +kernel
theorem dX10_take_192 : decode cX10_take 192 = .ok (.putfield 18, 3) := by decide +kernel
theorem dX10_take_195 : decode cX10_take 195 = .ok (.return_, 1) := by decide +kernel
theorem dX10_ends_0 : decode cX10_ends 0 = .ok (.iconst 2, 1) := by decide +kernel
theorem dX10_ends_1 : decode cX10_ends 1 = .ok (.aload_n 0, 1) := by decide +kernel
theorem dX10_ends_2 : decode cX10_ends 2 = .ok (.getfield 15, 3) := by decide +kernel
theorem dX10_ends_5 : decode cX10_ends 5 = .ok (.imul, 1) := by decide +kernel
theorem dX10_ends_6 : decode cX10_ends 6 = .ok (.ireturn, 1) := by decide +kernel
theorem dX10_swayAcross_0 : decode cX10_swayAcross 0 = .ok (.aload_n 0, 1) := by decide +kernel
theorem dX10_swayAcross_1 : decode cX10_swayAcross 1 = .ok (.getfield 28, 3) := by decide +kernel
theorem dX10_swayAcross_4 : decode cX10_swayAcross 4 = .ok (.aload_n 0, 1) := by decide +kernel
theorem dX10_swayAcross_5 : decode cX10_swayAcross 5 = .ok (.getfield 34, 3) := by decide +kernel
theorem dX10_swayAcross_8 : decode cX10_swayAcross 8 = .ok (.iconst 2, 1) := by decide +kernel
theorem dX10_swayAcross_9 : decode cX10_swayAcross 9 = .ok (.iload_n 1, 1) := by decide +kernel
theorem dX10_swayAcross_10 : decode cX10_swayAcross 10 = .ok (.imul, 1) := by decide +kernel
theorem dX10_swayAcross_11 : decode cX10_swayAcross 11 = .ok (.iaload, 1) := by decide +kernel
theorem dX10_swayAcross_12 : decode cX10_swayAcross 12 = .ok (.iaload, 1) := by decide +kernel
theorem dX10_swayAcross_13 : decode cX10_swayAcross 13 = .ok (.aload_n 0, 1) := by decide +kernel
theorem dX10_swayAcross_14 : decode cX10_swayAcross 14 = .ok (.getfield 28, 3) := by decide +kernel
theorem dX10_swayAcross_17 : decode cX10_swayAcross 17 = .ok (.aload_n 0, 1) := by decide +kernel
theorem dX10_swayAcross_18 : decode cX10_swayAcross 18 = .ok (.getfield 34, 3) := by decide +kernel
theorem dX10_swayAcross_21 : decode cX10_swayAcross 21 = .ok (.iconst 2, 1) := by decide +kernel
theorem dX10_swayAcross_22 : decode cX10_swayAcross 22 = .ok (.iload_n 1, 1) := by decide +kernel
theorem dX10_swayAcross_23 : decode cX10_swayAcross 23 = .ok (.imul, 1) := by decide +kernel
theorem dX10_swayAcross_24 : decode cX10_swayAcross 24 = .ok (.iconst 1, 1) := by decide +kernel
theorem dX10_swayAcross_25 : decode cX10_swayAcross 25 = .ok (.iadd, 1) := by decide +kernel
theorem dX10_swayAcross_26 : decode cX10_swayAcross 26 = .ok (.iaload, 1) := by decide +kernel
theorem dX10_swayAcross_27 : decode cX10_swayAcross 27 = .ok (.iaload, 1) := by decide +kernel
theorem dX10_swayAcross_28 : decode cX10_swayAcross 28 = .ok (.isub, 1) := by decide +kernel
theorem dX10_swayAcross_29 : decode cX10_swayAcross 29 = .ok (.invokestatic 50, 3) := by decide +kernel
theorem dX10_swayAcross_32 : decode cX10_swayAcross 32 = .ok (.ireturn, 1) := by decide +kernel
theorem dX10_farApart_0 : decode cX10_farApart 0 = .ok (.aload_n 0, 1) := by decide +kernel
theorem dX10_farApart_1 : decode cX10_farApart 1 = .ok (.getfield 21, 3) := by decide +kernel
theorem dX10_farApart_4 : decode cX10_farApart 4 = .ok (.iload_n 1, 1) := by decide +kernel
theorem dX10_farApart_5 : decode cX10_farApart 5 = .ok (.iaload, 1) := by decide +kernel
theorem dX10_farApart_6 : decode cX10_farApart 6 = .ok (.aload_n 0, 1) := by decide +kernel
theorem dX10_farApart_7 : decode cX10_farApart 7 = .ok (.getfield 21, 3) := by decide +kernel
theorem dX10_farApart_10 : decode cX10_farApart 10 = .ok (.iload_n 2, 1) := by decide +kernel
theorem dX10_farApart_11 : decode cX10_farApart 11 = .ok (.iaload, 1) := by decide +kernel
theorem dX10_farApart_12 : decode cX10_farApart 12 = .ok (.isub, 1) := by decide +kernel
theorem dX10_farApart_13 : decode cX10_farApart 13 = .ok (.invokestatic 50, 3) := by decide +kernel
theorem dX10_farApart_16 : decode cX10_farApart 16 = .ok (.iconst 2, 1) := by decide +kernel
theorem dX10_farApart_17 : decode cX10_farApart 17 = .ok (.if_icmp .le 7, 3) := by decide +kernel
theorem dX10_farApart_20 : decode cX10_farApart 20 = .ok (.iconst 1, 1) := by decide +kernel
theorem dX10_farApart_21 : decode cX10_farApart 21 = .ok (.goto 4, 3) := by decide +kernel
theorem dX10_farApart_24 : decode cX10_farApart 24 = .ok (.iconst 0, 1) := by decide +kernel
theorem dX10_farApart_25 : decode cX10_farApart 25 = .ok (.ireturn, 1) := by decide +kernel
theorem dX10_weightOf_0 : decode cX10_weightOf 0 = .ok (.iconst 0, 1) := by decide +kernel
theorem dX10_weightOf_1 : decode cX10_weightOf 1 = .ok (.istore_n 2, 1) := by decide +kernel
theorem dX10_weightOf_2 : decode cX10_weightOf 2 = .ok (.iconst 0, 1) := by decide +kernel
theorem dX10_weightOf_3 : decode cX10_weightOf 3 = .ok (.istore_n 3, 1) := by decide +kernel
theorem dX10_weightOf_4 : decode cX10_weightOf 4 = .ok (.iload_n 3, 1) := by decide +kernel
theorem dX10_weightOf_5 : decode cX10_weightOf 5 = .ok (.aload_n 0, 1) := by decide +kernel
theorem dX10_weightOf_6 : decode cX10_weightOf 6 = .ok (.getfield 18, 3) := by decide +kernel
theorem dX10_weightOf_9 : decode cX10_weightOf 9 = .ok (.if_icmp .ge 26, 3) := by decide +kernel
theorem dX10_weightOf_12 : decode cX10_weightOf 12 = .ok (.iload_n 1, 1) := by decide +kernel
theorem dX10_weightOf_13 : decode cX10_weightOf 13 = .ok (.iload_n 3, 1) := by decide +kernel
theorem dX10_weightOf_14 : decode cX10_weightOf 14 = .ok (.ishr, 1) := by decide +kernel
theorem dX10_weightOf_15 : decode cX10_weightOf 15 = .ok (.iconst 1, 1) := by decide +kernel
theorem dX10_weightOf_16 : decode cX10_weightOf 16 = .ok (.iand, 1) := by decide +kernel
theorem dX10_weightOf_17 : decode cX10_weightOf 17 = .ok (.ifCond .eq 12, 3) := by decide +kernel
theorem dX10_weightOf_20 : decode cX10_weightOf 20 = .ok (.iload_n 2, 1) := by decide +kernel
theorem dX10_weightOf_21 : decode cX10_weightOf 21 = .ok (.aload_n 0, 1) := by decide +kernel
theorem dX10_weightOf_22 : decode cX10_weightOf 22 = .ok (.getfield 40, 3) := by decide +kernel
theorem dX10_weightOf_25 : decode cX10_weightOf 25 = .ok (.iload_n 3, 1) := by decide +kernel
theorem dX10_weightOf_26 : decode cX10_weightOf 26 = .ok (.iaload, 1) := by decide +kernel
theorem dX10_weightOf_27 : decode cX10_weightOf 27 = .ok (.iadd, 1) := by decide +kernel
theorem dX10_weightOf_28 : decode cX10_weightOf 28 = .ok (.istore_n 2, 1) := by decide +kernel
theorem dX10_weightOf_29 : decode cX10_weightOf 29 = .ok (.iinc 3 1, 3) := by decide +kernel
theorem dX10_weightOf_32 : decode cX10_weightOf 32 = .ok (.goto (-28), 3) := by decide +kernel
theorem dX10_weightOf_35 : decode cX10_weightOf 35 = .ok (.iload_n 2, 1) := by decide +kernel
theorem dX10_weightOf_36 : decode cX10_weightOf 36 = .ok (.ireturn, 1) := by decide +kernel
theorem dX10_boughsOf_0 : decode cX10_boughsOf 0 = .ok (.iconst 1, 1) := by decide +kernel
theorem dX10_boughsOf_1 : decode cX10_boughsOf 1 = .ok (.aload_n 0, 1) := by decide +kernel
theorem dX10_boughsOf_2 : decode cX10_boughsOf 2 = .ok (.getfield 34, 3) := by decide +kernel
theorem dX10_boughsOf_5 : decode cX10_boughsOf 5 = .ok (.iconst 2, 1) := by decide +kernel
theorem dX10_boughsOf_6 : decode cX10_boughsOf 6 = .ok (.iload_n 1, 1) := by decide +kernel
theorem dX10_boughsOf_7 : decode cX10_boughsOf 7 = .ok (.imul, 1) := by decide +kernel
theorem dX10_boughsOf_8 : decode cX10_boughsOf 8 = .ok (.iaload, 1) := by decide +kernel
theorem dX10_boughsOf_9 : decode cX10_boughsOf 9 = .ok (.ishl, 1) := by decide +kernel
theorem dX10_boughsOf_10 : decode cX10_boughsOf 10 = .ok (.iconst 1, 1) := by decide +kernel
theorem dX10_boughsOf_11 : decode cX10_boughsOf 11 = .ok (.aload_n 0, 1) := by decide +kernel
theorem dX10_boughsOf_12 : decode cX10_boughsOf 12 = .ok (.getfield 34, 3) := by decide +kernel
theorem dX10_boughsOf_15 : decode cX10_boughsOf 15 = .ok (.iconst 2, 1) := by decide +kernel
theorem dX10_boughsOf_16 : decode cX10_boughsOf 16 = .ok (.iload_n 1, 1) := by decide +kernel
theorem dX10_boughsOf_17 : decode cX10_boughsOf 17 = .ok (.imul, 1) := by decide +kernel
theorem dX10_boughsOf_18 : decode cX10_boughsOf 18 = .ok (.iconst 1, 1) := by decide +kernel
theorem dX10_boughsOf_19 : decode cX10_boughsOf 19 = .ok (.iadd, 1) := by decide +kernel
theorem dX10_boughsOf_20 : decode cX10_boughsOf 20 = .ok (.iaload, 1) := by decide +kernel
theorem dX10_boughsOf_21 : decode cX10_boughsOf 21 = .ok (.ishl, 1) := by decide +kernel
theorem dX10_boughsOf_22 : decode cX10_boughsOf 22 = .ok (.ior, 1) := by decide +kernel
theorem dX10_boughsOf_23 : decode cX10_boughsOf 23 = .ok (.ireturn, 1) := by decide +kernel
theorem dX11_init_0 : decode cX11_init 0 = .ok (.aload_n 0, 1) := by decide +kernel
theorem dX11_init_1 : decode cX11_init 1 = .ok (.invokespecial 1, 3) := by decide +kernel
theorem dX11_init_4 : decode cX11_init 4 = .ok (.aload_n 0, 1) := by decide +kernel
theorem dX11_init_5 : decode cX11_init 5 = .ok (.new 7, 3) := by decide +kernel
theorem dX11_init_8 : decode cX11_init 8 = .ok (.dup, 1) := by decide +kernel
theorem dX11_init_9 : decode cX11_init 9 = .ok (.invokespecial 9, 3) := by decide +kernel
theorem dX11_init_12 : decode cX11_init 12 = .ok (.putfield 10, 3) := by decide +kernel
theorem dX11_init_15 : decode cX11_init 15 = .ok (.aload_n 0, 1) := by decide +kernel
theorem dX11_init_16 : decode cX11_init 16 = .ok (.new 16, 3) := by decide +kernel
theorem dX11_init_19 : decode cX11_init 19 = .ok (.dup, 1) := by decide +kernel
theorem dX11_init_20 : decode cX11_init 20 = .ok (.invokespecial 18, 3) := by decide +kernel
theorem dX11_init_23 : decode cX11_init 23 = .ok (.putfield 19, 3) := by decide +kernel
theorem dX11_init_26 : decode cX11_init 26 = .ok (.aload_n 0, 1) := by decide +kernel
theorem dX11_init_27 : decode cX11_init 27 = .ok (.new 23, 3) := by decide +kernel
theorem dX11_init_30 : decode cX11_init 30 = .ok (.dup, 1) := by decide +kernel
theorem dX11_init_31 : decode cX11_init 31 = .ok (.invokespecial 25, 3) := by decide +kernel
theorem dX11_init_34 : decode cX11_init 34 = .ok (.putfield 26, 3) := by decide +kernel
theorem dX11_init_37 : decode cX11_init 37 = .ok (.aload_n 0, 1) := by decide +kernel
theorem dX11_init_38 : decode cX11_init 38 = .ok (.new 30, 3) := by decide +kernel
theorem dX11_init_41 : decode cX11_init 41 = .ok (.dup, 1) := by decide +kernel
theorem dX11_init_42 : decode cX11_init 42 = .ok (.invokespecial 32, 3) := by decide +kernel
theorem dX11_init_45 : decode cX11_init 45 = .ok (.putfield 33, 3) := by decide +kernel
theorem dX11_init_48 : decode cX11_init 48 = .ok (.aload_n 0, 1) := by decide +kernel
theorem dX11_init_49 : decode cX11_init 49 = .ok (.new 37, 3) := by decide +kernel
theorem dX11_init_52 : decode cX11_init 52 = .ok (.dup, 1) := by decide +kernel
theorem dX11_init_53 : decode cX11_init 53 = .ok (.invokespecial 39, 3) := by decide +kernel
theorem dX11_init_56 : decode cX11_init 56 = .ok (.putfield 40, 3) := by decide +kernel
theorem dX11_init_59 : decode cX11_init 59 = .ok (.aload_n 0, 1) := by decide +kernel
theorem dX11_init_60 : decode cX11_init 60 = .ok (.new 44, 3) := by decide +kernel
theorem dX11_init_63 : decode cX11_init 63 = .ok (.dup, 1) := by decide +kernel
theorem dX11_init_64 : decode cX11_init 64 = .ok (.invokespecial 46, 3) := by decide +kernel
theorem dX11_init_67 : decode cX11_init 67 = .ok (.putfield 47, 3) := by decide +kernel
theorem dX11_init_70 : decode cX11_init 70 = .ok (.aload_n 0, 1) := by decide +kernel
theorem dX11_init_71 : decode cX11_init 71 = .ok (.new 51, 3) := by decide +kernel
theorem dX11_init_74 : decode cX11_init 74 = .ok (.dup, 1) := by decide +kernel
theorem dX11_init_75 : decode cX11_init 75 = .ok (.invokespecial 53, 3) := by decide +kernel
theorem dX11_init_78 : decode cX11_init 78 = .ok (.putfield 54, 3) := by decide +kernel
theorem dX11_init_81 : decode cX11_init 81 = .ok (.aload_n 0, 1) := by decide +kernel
theorem dX11_init_82 : decode cX11_init 82 = .ok (.new 58, 3) := by decide +kernel
theorem dX11_init_85 : decode cX11_init 85 = .ok (.dup, 1) := by decide +kernel
theorem dX11_init_86 : decode cX11_init 86 = .ok (.invokespecial 60, 3) := by decide +kernel
theorem dX11_init_89 : decode cX11_init 89 = .ok (.putfield 61, 3) := by decide +kernel
theorem dX11_init_92 : decode cX11_init 92 = .ok (.aload_n 0, 1) := by decide +kernel
theorem dX11_init_93 : decode cX11_init 93 = .ok (.new 65, 3) := by decide +kernel
theorem dX11_init_96 : decode cX11_init 96 = .ok (.dup, 1) := by decide +kernel
theorem dX11_init_97 : decode cX11_init 97 = .ok (.invokespecial 67, 3) := by decide +kernel
theorem dX11_init_100 : decode cX11_init 100 = .ok (.putfield 68, 3) := by decide +kernel
theorem dX11_init_103 : decode cX11_init 103 = .ok (.aload_n 0, 1) := by decide +kernel
theorem dX11_init_104 : decode cX11_init 104 = .ok (.new 72, 3) := by decide +kernel
theorem dX11_init_107 : decode cX11_init 107 = .ok (.dup, 1) := by decide +kernel
theorem dX11_init_108 : decode cX11_init 108 = .ok (.invokespecial 74, 3) := by decide +kernel
theorem dX11_init_111 : decode cX11_init 111 = .ok (.putfield 75, 3) := by decide +kernel
theorem dX11_init_114 : decode cX11_init 114 = .ok (.aload_n 0, 1) := by decide +kernel
theorem dX11_init_115 : decode cX11_init 115 = .ok (.new 79, 3) := by decide +kernel
theorem dX11_init_118 : decode cX11_init 118 = .ok (.dup, 1) := by decide +kernel
theorem dX11_init_119 : decode cX11_init 119 = .ok (.invokespecial 81, 3) := by decide +kernel
theorem dX11_init_122 : decode cX11_init 122 = .ok (.putfield 82, 3) := by decide +kernel
theorem dX11_init_125 : decode cX11_init 125 = .ok (.aload_n 0, 1) := by decide +kernel
theorem dX11_init_126 : decode cX11_init 126 = .ok (.new 79, 3) := by decide +kernel
theorem dX11_init_129 : decode cX11_init 129 = .ok (.dup, 1) := by decide +kernel
theorem dX11_init_130 : decode cX11_init 130 = .ok (.invokespecial 81, 3) := by decide +kernel
theorem dX11_init_133 : decode cX11_init 133 = .ok (.putfield 86, 3) := by decide +kernel
theorem dX11_init_136 : decode cX11_init 136 = .ok (.aload_n 0, 1) := by decide +kernel
theorem dX11_init_137 : decode cX11_init 137 = .ok (.lconst 0, 1) := by decide +kernel
theorem dX11_init_138 : decode cX11_init 138 = .ok (.putfield 89, 3) := by decide +kernel
theorem dX11_init_141 : decode cX11_init 141 = .ok (.return_, 1) := by decide +kernel
theorem dX11_type_0 : decode cX11_type 0 = .ok (.iload_n 1, 1) := by decide +kernel
theorem dX11_type_1 : decode cX11_type 1 = .ok (.iconst 0, 1) := by decide +kernel
theorem dX11_type_2 : decode cX11_type 2 = .ok (.sipush 255, 3) := by decide +kernel
theorem dX11_type_5 : decode cX11_type 5 = .ok (.invokestatic 93, 3) := by decide +kernel
theorem dX11_type_8 : decode cX11_type 8 = .ok (.ifCond .ne 5, 3) := by decide +kernel
theorem dX11_type_11 : decode cX11_type 11 = .ok (.iconst (-1), 1) := by decide +kernel
theorem dX11_type_12 : decode cX11_type 12 = .ok (.ireturn, 1) := by decide +kernel
theorem dX11_type_13 : decode cX11_type 13 = .ok (.aload_n 0, 1) := by decide +kernel
theorem dX11_type_14 : decode cX11_type 14 = .ok (.getfield 10, 3) := by decide +kernel
theorem dX11_type_17 : decode cX11_type 17 = .ok (.iload_n 1, 1) := by decide +kernel
theorem dX11_type_18 : decode cX11_type 18 = .ok (.invokevirtual 97, 3) := by decide +kernel
theorem dX11_type_21 : decode cX11_type 21 = .ok (.ifCond .eq 13, 3) := by decide +kernel
theorem dX11_type_24 : decode cX11_type 24 = .ok (.aload_n 0, 1) := by decide +kernel
theorem dX11_type_25 : decode cX11_type 25 = .ok (.getfield 10, 3) := by decide +kernel
theorem dX11_type_28 : decode cX11_type 28 = .ok (.getfield 101, 3) := by decide +kernel
theorem dX11_type_31 : decode cX11_type 31 = .ok (.goto 5, 3) := by decide +kernel
theorem dX11_type_34 : decode cX11_type 34 = .ok (.bipush (-3), 2) := by decide +kernel
theorem dX11_type_36 : decode cX11_type 36 = .ok (.ireturn, 1) := by decide +kernel
theorem dX11_clear_0 : decode cX11_clear 0 = .ok (.aload_n 0, 1) := by decide +kernel
theorem dX11_clear_1 : decode cX11_clear 1 = .ok (.getfield 10, 3) := by decide +kernel
theorem dX11_clear_4 : decode cX11_clear 4 = .ok (.getfield 101, 3) := by decide +kernel
theorem dX11_clear_7 : decode cX11_clear 7 = .ok (.istore_n 1, 1) := by decide +kernel
theorem dX11_clear_8 : decode cX11_clear 8 = .ok (.aload_n 0, 1) := by decide +kernel
theorem dX11_clear_9 : decode cX11_clear 9 = .ok (.getfield 10, 3) := by decide +kernel
theorem dX11_clear_12 : decode cX11_clear 12 = .ok (.iconst 0, 1) := by decide +kernel
theorem dX11_clear_13 : decode cX11_clear 13 = .ok (.putfield 101, 3) := by decide +kernel
theorem dX11_clear_16 : decode cX11_clear 16 = .ok (.iload_n 1, 1) := by decide +kernel
theorem dX11_clear_17 : decode cX11_clear 17 = .ok (.ireturn, 1) := by decide +kernel
theorem dX11_tree_0 : decode cX11_tree 0 = .ok (.aload_n 0, 1) := by decide +kernel
theorem dX11_tree_1 : decode cX11_tree 1 = .ok (.getfield 10, 3) := by decide +kernel
theorem dX11_tree_4 : decode cX11_tree 4 = .ok (.aload_n 0, 1) := by decide +kernel
theorem dX11_tree_5 : decode cX11_tree 5 = .ok (.getfield 86, 3) := by decide +kernel
theorem dX11_tree_8 : decode cX11_tree 8 = .ok (.invokevirtual 105, 3) := by decide +kernel
theorem dX11_tree_11 : decode cX11_tree 11 = .ok (.istore_n 1, 1) := by decide +kernel
theorem dX11_tree_12 : decode cX11_tree 12 = .ok (.iload_n 1, 1) := by decide +kernel
theorem dX11_tree_13 : decode cX11_tree 13 = .ok (.ifCond .ge 5, 3) := by decide +kernel
theorem dX11_tree_16 : decode cX11_tree 16 = .ok (.iload_n 1, 1) := by decide +kernel
theorem dX11_tree_17 : decode cX11_tree 17 = .ok (.ireturn, 1) := by decide +kernel
theorem dX11_tree_18 : decode cX11_tree 18 = .ok (.aload_n 0, 1) := by decide +kernel
theorem dX11_tree_19 : decode cX11_tree 19 = .ok (.getfield 82, 3) := by decide +kernel
theorem dX11_tree_22 : decode cX11_tree 22 = .ok (.astore_n 2, 1) := by decide +kernel
theorem dX11_tree_23 : decode cX11_tree 23 = .ok (.aload_n 0, 1) := by decide +kernel
theorem dX11_tree_24 : decode cX11_tree 24 = .ok (.aload_n 0, 1) := by decide +kernel
theorem dX11_tree_25 : decode cX11_tree 25 = .ok (.getfield 86, 3) := by decide +kernel
theorem dX11_tree_28 : decode cX11_tree 28 = .ok (.putfield 82, 3) := by decide +kernel
theorem dX11_tree_31 : decode cX11_tree 31 = .ok (.aload_n 0, 1) := by decide +kernel
theorem dX11_tree_32 : decode cX11_tree 32 = .ok (.aload_n 2, 1) := by decide +kernel
theorem dX11_tree_33 : decode cX11_tree 33 = .ok (.putfield 86, 3) := by decide +kernel
theorem dX11_tree_36 : decode cX11_tree 36 = .ok (.aload_n 0, 1) := by decide +kernel
theorem dX11_tree_37 : decode cX11_tree 37 = .ok (.getfield 10, 3) := by decide +kernel
theorem dX11_tree_40 : decode cX11_tree 40 = .ok (.iconst 0, 1) := by decide +kernel
theorem dX11_tree_41 : decode cX11_tree 41 = .ok (.putfield 101, 3) := by decide +kernel
theorem dX11_tree_44 : decode cX11_tree 44 = .ok (.aload_n 0, 1) := by decide +kernel
theorem dX11_tree_45 : decode cX11_tree 45 = .ok (.getfield 19, 3) := by decide +kernel
theorem dX11_tree_48 : decode cX11_tree 48 = .ok (.aload_n 0, 1) := by decide +kernel
theorem dX11_tree_49 : decode cX11_tree 49 = .ok (.getfield 82, 3) := by decide +kernel
theorem dX11_tree_52 : decode cX11_tree 52 = .ok (.invokevirtual 109, 3) := by decide +kernel
theorem dX11_tree_55 : decode cX11_tree 55 = .ok (.aload_n 0, 1) := by decide +kernel
theorem dX11_tree_56 : decode cX11_tree 56 = .ok (.getfield 33, 3) := by decide +kernel
theorem dX11_tree_59 : decode cX11_tree 59 = .ok (.invokevirtual 113, 3) := by decide +kernel
theorem dX11_tree_62 : decode cX11_tree 62 = .ok (.aload_n 0, 1) := by decide +kernel
theorem dX11_tree_63 : decode cX11_tree 63 = .ok (.getfield 40, 3) := by decide +kernel
theorem dX11_tree_66 : decode cX11_tree 66 = .ok (.invokevirtual 116, 3) := by decide +kernel
theorem dX11_tree_69 : decode cX11_tree 69 = .ok (.aload_n 0, 1) := by decide +kernel
theorem dX11_tree_70 : decode cX11_tree 70 = .ok (.getfield 47, 3) := by decide +kernel
theorem dX11_tree_73 : decode cX11_tree 73 = .ok (.iconst 0, 1) := by decide +kernel
theorem dX11_tree_74 : decode cX11_tree 74 = .ok (.putfield 117, 3) := by decide +kernel
theorem dX11_tree_77 : decode cX11_tree 77 = .ok (.iload_n 1, 1) := by decide +kernel
theorem dX11_tree_78 : decode cX11_tree 78 = .ok (.ireturn, 1) := by decide +kernel
theorem dX11_bough_0 : decode cX11_bough 0 = .ok (.iload_n 1, 1) := by decide +kernel
theorem dX11_bough_1 : decode cX11_bough 1 = .ok (.iconst 0, 1) := by decide +kernel
theorem dX11_bough_2 : decode cX11_bough 2 = .ok (.aload_n 0, 1) := by decide +kernel
theorem dX11_bough_3 : decode cX11_bough 3 = .ok (.getfield 82, 3) := by decide +kernel
theorem dX11_bough_6 : decode cX11_bough 6 = .ok (.getfield 120, 3) := by decide +kernel
theorem dX11_bough_9 : decode cX11_bough 9 = .ok (.iconst 1, 1) := by decide +kernel
theorem dX11_bough_10 : decode cX11_bough 10 = .ok (.isub, 1) := by decide +kernel
theorem dX11_bough_11 : decode cX11_bough 11 = .ok (.invokestatic 93, 3) := by decide +kernel
theorem dX11_bough_14 : decode cX11_bough 14 = .ok (.ifCond .ne 5, 3) := by decide +kernel
theorem dX11_bough_17 : decode cX11_bough 17 = .ok (.iconst (-1), 1) := by decide +kernel
theorem dX11_bough_18 : decode cX11_bough 18 = .ok (.ireturn, 1) := by decide +kernel
theorem dX11_bough_19 : decode cX11_bough 19 = .ok (.iload_n 2, 1) := by decide +kernel
theorem dX11_bough_20 : decode cX11_bough 20 = .ok (.tableswitch 87 0 3 #[32, 42, 52, 62], 32) := by decide +kernel
theorem dX11_bough_52 : decode cX11_bough 52 = .ok (.aload_n 0, 1) := by decide +kernel
theorem dX11_bough_53 : decode cX11_bough 53 = .ok (.getfield 82, 3) := by decide +kernel
theorem dX11_bough_56 : decode cX11_bough 56 = .ok (.getfield 123, 3) := by decide +kernel
theorem dX11_bough_59 : decode cX11_bough 59 = .ok (.iload_n 1, 1) := by decide +kernel
theorem dX11_bough_60 : decode cX11_bough 60 = .ok (.iaload, 1) := by decide +kernel
theorem dX11_bough_61 : decode cX11_bough 61 = .ok (.ireturn, 1) := by decide +kernel
theorem dX11_bough_62 : decode cX11_bough 62 = .ok (.aload_n 0, 1) := by decide +kernel
theorem dX11_bough_63 : decode cX11_bough 63 = .ok (.getfield 82, 3) := by decide +kernel
theorem dX11_bough_66 : decode cX11_bough 66 = .ok (.getfield 127, 3) := by decide +kernel
theorem dX11_bough_69 : decode cX11_bough 69 = .ok (.iload_n 1, 1) := by decide +kernel
theorem dX11_bough_70 : decode cX11_bough 70 = .ok (.iaload, 1) := by decide +kernel
theorem dX11_bough_71 : decode cX11_bough 71 = .ok (.ireturn, 1) := by decide +kernel
theorem dX11_bough_72 : decode cX11_bough 72 = .ok (.aload_n 0, 1) := by decide +kernel
theorem dX11_bough_73 : decode cX11_bough 73 = .ok (.getfield 82, 3) := by decide +kernel
theorem dX11_bough_76 : decode cX11_bough 76 = .ok (.getfield 130, 3) := by decide +kernel
theorem dX11_bough_79 : decode cX11_bough 79 = .ok (.iload_n 1, 1) := by decide +kernel
theorem dX11_bough_80 : decode cX11_bough 80 = .ok (.iaload, 1) := by decide +kernel
theorem dX11_bough_81 : decode cX11_bough 81 = .ok (.ireturn, 1) := by decide +kernel
theorem dX11_bough_82 : decode cX11_bough 82 = .ok (.aload_n 0, 1) := by decide +kernel
theorem dX11_bough_83 : decode cX11_bough 83 = .ok (.getfield 26, 3) := by decide +kernel
theorem dX11_bough_86 : decode cX11_bough 86 = .ok (.aload_n 0, 1) := by decide +kernel
theorem dX11_bough_87 : decode cX11_bough 87 = .ok (.getfield 82, 3) := by decide +kernel
theorem dX11_bough_90 : decode cX11_bough 90 = .ok (.aload_n 0, 1) := by decide +kernel
theorem dX11_bough_91 : decode cX11_bough 91 = .ok (.getfield 19, 3) := by decide +kernel
theorem dX11_bough_94 : decode cX11_bough 94 = .ok (.invokevirtual 133, 3) := by decide +kernel
theorem dX11_bough_97 : decode cX11_bough 97 = .ok (.aload_n 0, 1) := by decide +kernel
theorem dX11_bough_98 : decode cX11_bough 98 = .ok (.getfield 26, 3) := by decide +kernel
theorem dX11_bough_101 : decode cX11_bough 101 = .ok (.getfield 137, 3) := by decide +kernel
theorem dX11_bough_104 : decode cX11_bough 104 = .ok (.iload_n 1, 1) := by decide +kernel
theorem dX11_bough_105 : decode cX11_bough 105 = .ok (.iaload, 1) := by decide +kernel
theorem dX11_bough_106 : decode cX11_bough 106 = .ok (.ireturn, 1) := by decide +kernel
theorem dX11_bough_107 : decode cX11_bough 107 = .ok (.iconst (-1), 1) := by decide +kernel
theorem dX11_bough_108 : decode cX11_bough 108 = .ok (.ireturn, 1) := by decide +kernel
theorem dX11_plank_0 : decode cX11_plank 0 = .ok (.aload_n 0, 1) := by decide +kernel
theorem dX11_plank_1 : decode cX11_plank 1 = .ok (.iload_n 1, 1) := by decide +kernel
theorem dX11_plank_2 : decode cX11_plank 2 = .ok (.invokevirtual 140, 3) := by decide +kernel
theorem dX11_plank_5 : decode cX11_plank 5 = .ok (.ifCond .ne 5, 3) := by decide +kernel
theorem dX11_plank_8 : decode cX11_plank 8 = .ok (.iconst (-1), 1) := by decide +kernel
theorem dX11_plank_9 : decode cX11_plank 9 = .ok (.ireturn, 1) := by decide +kernel
theorem dX11_plank_10 : decode cX11_plank 10 = .ok (.iload_n 2, 1) := by decide +kernel
theorem dX11_plank_11 : decode cX11_plank 11 = .ok (.tableswitch 90 0 3 #[29, 41, 55, 65], 29) := by decide +kernel
theorem dX11_plank_40 : decode cX11_plank 40 = .ok (.aload_n 0, 1) := by decide +kernel
theorem dX11_plank_41 : decode cX11_plank 41 = .ok (.getfield 82, 3) := by decide +kernel
theorem dX11_plank_44 : decode cX11_plank 44 = .ok (.getfield 143, 3) := by decide +kernel
theorem dX11_plank_47 : decode cX11_plank 47 = .ok (.iconst 2, 1) := by decide +kernel
theorem dX11_plank_48 : decode cX11_plank 48 = .ok (.iload_n 1, 1) := by decide +kernel
theorem dX11_plank_49 : decode cX11_plank 49 = .ok (.imul, 1) := by decide +kernel
theorem dX11_plank_50 : decode cX11_plank 50 = .ok (.iaload, 1) := by decide +kernel
theorem dX11_plank_51 : decode cX11_plank 51 = .ok (.ireturn, 1) := by decide +kernel
theorem dX11_plank_52 : decode cX11_plank 52 = .ok (.aload_n 0, 1) := by decide +kernel
theorem dX11_plank_53 : decode cX11_plank 53 = .ok (.getfield 82, 3) := by decide +kernel
theorem dX11_plank_56 : decode cX11_plank 56 = .ok (.getfield 143, 3) := by decide +kernel
theorem dX11_plank_59 : decode cX11_plank 59 = .ok (.iconst 2, 1) := by decide +kernel
theorem dX11_plank_60 : decode cX11_plank 60 = .ok (.iload_n 1, 1) := by decide +kernel
theorem dX11_plank_61 : decode cX11_plank 61 = .ok (.imul, 1) := by decide +kernel
theorem dX11_plank_62 : decode cX11_plank 62 = .ok (.iconst 1, 1) := by decide +kernel
theorem dX11_plank_63 : decode cX11_plank 63 = .ok (.iadd, 1) := by decide +kernel
theorem dX11_plank_64 : decode cX11_plank 64 = .ok (.iaload, 1) := by decide +kernel
theorem dX11_plank_65 : decode cX11_plank 65 = .ok (.ireturn, 1) := by decide +kernel
theorem dX11_plank_66 : decode cX11_plank 66 = .ok (.aload_n 0, 1) := by decide +kernel
theorem dX11_plank_67 : decode cX11_plank 67 = .ok (.getfield 82, 3) := by decide +kernel
theorem dX11_plank_70 : decode cX11_plank 70 = .ok (.getfield 146, 3) := by decide +kernel
theorem dX11_plank_73 : decode cX11_plank 73 = .ok (.iload_n 1, 1) := by decide +kernel
theorem dX11_plank_74 : decode cX11_plank 74 = .ok (.iaload, 1) := by decide +kernel
theorem dX11_plank_75 : decode cX11_plank 75 = .ok (.ireturn, 1) := by decide +kernel
theorem dX11_plank_76 : decode cX11_plank 76 = .ok (.aload_n 0, 1) := by decide +kernel
theorem dX11_plank_77 : decode cX11_plank 77 = .ok (.getfield 26, 3) := by decide +kernel
theorem dX11_plank_80 : decode cX11_plank 80 = .ok (.aload_n 0, 1) := by decide +kernel
theorem dX11_plank_81 : decode cX11_plank 81 = .ok (.getfield 82, 3) := by decide +kernel
theorem dX11_plank_84 : decode cX11_plank 84 = .ok (.aload_n 0, 1) := by decide +kernel
theorem dX11_plank_85 : decode cX11_plank 85 = .ok (.getfield 19, 3) := by decide +kernel
theorem dX11_plank_88 : decode cX11_plank 88 = .ok (.invokevirtual 133, 3) := by decide +kernel
theorem dX11_plank_91 : decode cX11_plank 91 = .ok (.aload_n 0, 1) := by decide +kernel
theorem dX11_plank_92 : decode cX11_plank 92 = .ok (.getfield 26, 3) := by decide +kernel
theorem dX11_plank_95 : decode cX11_plank 95 = .ok (.getfield 149, 3) := by decide +kernel
theorem dX11_plank_98 : decode cX11_plank 98 = .ok (.iload_n 1, 1) := by decide +kernel
theorem dX11_plank_99 : decode cX11_plank 99 = .ok (.iaload, 1) := by decide +kernel
theorem dX11_plank_100 : decode cX11_plank 100 = .ok (.ireturn, 1) := by decide +kernel
theorem dX11_plank_101 : decode cX11_plank 101 = .ok (.iconst (-1), 1) := by decide +kernel
theorem dX11_plank_102 : decode cX11_plank 102 = .ok (.ireturn, 1) := by decide +kernel
theorem dX11_end_0 : decode cX11_end 0 = .ok (.aload_n 0, 1) := by decide +kernel
theorem dX11_end_1 : decode cX11_end 1 = .ok (.iload_n 1, 1) := by decide +kernel
theorem dX11_end_2 : decode cX11_end 2 = .ok (.iload_n 2, 1) := by decide +kernel
theorem dX11_end_3 : decode cX11_end 3 = .ok (.invokevirtual 152, 3) := by decide +kernel
theorem dX11_end_6 : decode cX11_end 6 = .ok (.ifCond .ne 5, 3) := by decide +kernel
theorem dX11_end_9 : decode cX11_end 9 = .ok (.iconst (-1), 1) := by decide +kernel
theorem dX11_end_10 : decode cX11_end 10 = .ok (.ireturn, 1) := by decide +kernel
theorem dX11_end_11 : decode cX11_end 11 = .ok (.iconst 2, 1) := by decide +kernel
theorem dX11_end_12 : decode cX11_end 12 = .ok (.iload_n 1, 1) := by decide +kernel
theorem dX11_end_13 : decode cX11_end 13 = .ok (.imul, 1) := by decide +kernel
theorem dX11_end_14 : decode cX11_end 14 = .ok (.iload_n 2, 1) := by decide +kernel
theorem dX11_end_15 : decode cX11_end 15 = .ok (.iadd, 1) := by decide +kernel
theorem dX11_end_16 : decode cX11_end 16 = .ok (.istore 4, 2) := by decide +kernel
theorem dX11_end_18 : decode cX11_end 18 = .ok (.iload_n 3, 1) := by decide +kernel
theorem dX11_end_19 : decode cX11_end 19 = .ok (.tableswitch 63 0 2 #[25, 35, 45], 25) := by decide +kernel
theorem dX11_end_44 : decode cX11_end 44 = .ok (.aload_n 0, 1) := by decide +kernel
theorem dX11_end_45 : decode cX11_end 45 = .ok (.getfield 19, 3) := by decide +kernel
theorem dX11_end_48 : decode cX11_end 48 = .ok (.iload 4, 2) := by decide +kernel
theorem dX11_end_50 : decode cX11_end 50 = .ok (.invokevirtual 156, 3) := by decide +kernel
theorem dX11_end_53 : decode cX11_end 53 = .ok (.ireturn, 1) := by decide +kernel
theorem dX11_end_54 : decode cX11_end 54 = .ok (.aload_n 0, 1) := by decide +kernel
theorem dX11_end_55 : decode cX11_end 55 = .ok (.getfield 19, 3) := by decide +kernel
theorem dX11_end_58 : decode cX11_end 58 = .ok (.iload 4, 2) := by decide +kernel
theorem dX11_end_60 : decode cX11_end 60 = .ok (.invokevirtual 160, 3) := by decide +kernel
theorem dX11_end_63 : decode cX11_end 63 = .ok (.ireturn, 1) := by decide +kernel
theorem dX11_end_64 : decode cX11_end 64 = .ok (.aload_n 0, 1) := by decide +kernel
theorem dX11_end_65 : decode cX11_end 65 = .ok (.getfield 19, 3) := by decide +kernel
theorem dX11_end_68 : decode cX11_end 68 = .ok (.iload 4, 2) := by decide +kernel
theorem dX11_end_70 : decode cX11_end 70 = .ok (.invokevirtual 163, 3) := by decide +kernel
theorem dX11_end_73 : decode cX11_end 73 = .ok (.ifCond .eq 7, 3) := by decide +kernel
theorem dX11_end_76 : decode cX11_end 76 = .ok (.iconst 1, 1) := by decide +kernel
theorem dX11_end_77 : decode cX11_end 77 = .ok (.goto 4, 3) := by decide +kernel
theorem dX11_end_80 : decode cX11_end 80 = .ok (.iconst 0, 1) := by decide +kernel
theorem dX11_end_81 : decode cX11_end 81 = .ok (.ireturn, 1) := by decide +kernel
theorem dX11_end_82 : decode cX11_end 82 = .ok (.iconst (-1), 1) := by decide +kernel
theorem dX11_end_83 : decode cX11_end 83 = .ok (.ireturn, 1) := by decide +kernel
theorem dX11_child_0 : decode cX11_child 0 = .ok (.aload_n 0, 1) := by decide +kernel
theorem dX11_child_1 : decode cX11_child 1 = .ok (.iload_n 1, 1) := by decide +kernel
theorem dX11_child_2 : decode cX11_child 2 = .ok (.invokevirtual 166, 3) := by decide +kernel
theorem dX11_child_5 : decode cX11_child 5 = .ok (.ifCond .ne 5, 3) := by decide +kernel
theorem dX11_child_8 : decode cX11_child 8 = .ok (.iconst (-1), 1) := by decide +kernel
theorem dX11_child_9 : decode cX11_child 9 = .ok (.ireturn, 1) := by decide +kernel
theorem dX11_child_10 : decode cX11_child 10 = .ok (.iload_n 2, 1) := by decide +kernel
theorem dX11_child_11 : decode cX11_child 11 = .ok (.tableswitch 54 0 2 #[25, 35, 45], 25) := by decide +kernel
theorem dX11_child_36 : decode cX11_child 36 = .ok (.aload_n 0, 1) := by decide +kernel
theorem dX11_child_37 : decode cX11_child 37 = .ok (.getfield 82, 3) := by decide +kernel
theorem dX11_child_40 : decode cX11_child 40 = .ok (.getfield 169, 3) := by decide +kernel
theorem dX11_child_43 : decode cX11_child 43 = .ok (.iload_n 1, 1) := by decide +kernel
theorem dX11_child_44 : decode cX11_child 44 = .ok (.iaload, 1) := by decide +kernel
theorem dX11_child_45 : decode cX11_child 45 = .ok (.ireturn, 1) := by decide +kernel
theorem dX11_child_46 : decode cX11_child 46 = .ok (.aload_n 0, 1) := by decide +kernel
theorem dX11_child_47 : decode cX11_child 47 = .ok (.getfield 82, 3) := by decide +kernel
theorem dX11_child_50 : decode cX11_child 50 = .ok (.getfield 172, 3) := by decide +kernel
theorem dX11_child_53 : decode cX11_child 53 = .ok (.iload_n 1, 1) := by decide +kernel
theorem dX11_child_54 : decode cX11_child 54 = .ok (.iaload, 1) := by decide +kernel
theorem dX11_child_55 : decode cX11_child 55 = .ok (.ireturn, 1) := by decide +kernel
theorem dX11_child_56 : decode cX11_child 56 = .ok (.aload_n 0, 1) := by decide +kernel
theorem dX11_child_57 : decode cX11_child 57 = .ok (.getfield 19, 3) := by decide +kernel
theorem dX11_child_60 : decode cX11_child 60 = .ok (.iload_n 1, 1) := by decide +kernel
theorem dX11_child_61 : decode cX11_child 61 = .ok (.invokevirtual 175, 3) := by decide +kernel
theorem dX11_child_64 : decode cX11_child 64 = .ok (.ireturn, 1) := by decide +kernel
theorem dX11_child_65 : decode cX11_child 65 = .ok (.iconst (-1), 1) := by decide +kernel
theorem dX11_child_66 : decode cX11_child 66 = .ok (.ireturn, 1) := by decide +kernel
theorem dX11_now_0 : decode cX11_now 0 = .ok (.iload_n 1, 1) := by decide +kernel
theorem dX11_now_1 : decode cX11_now 1 = .ok (.iconst 0, 1) := by decide +kernel
theorem dX11_now_2 : decode cX11_now 2 = .ok (.iconst 5, 1) := by decide +kernel
theorem dX11_now_3 : decode cX11_now 3 = .ok (.invokestatic 93, 3) := by decide +kernel
theorem dX11_now_6 : decode cX11_now 6 = .ok (.ifCond .ne 5, 3) := by decide +kernel
theorem dX11_now_9 : decode cX11_now 9 = .ok (.iconst (-1), 1) := by decide +kernel
theorem dX11_now_10 : decode cX11_now 10 = .ok (.ireturn, 1) := by decide +kernel
theorem dX11_now_11 : decode cX11_now 11 = .ok (.aload_n 0, 1) := by decide +kernel
theorem dX11_now_12 : decode cX11_now 12 = .ok (.getfield 26, 3) := by decide +kernel
theorem dX11_now_15 : decode cX11_now 15 = .ok (.aload_n 0, 1) := by decide +kernel
theorem dX11_now_16 : decode cX11_now 16 = .ok (.getfield 82, 3) := by decide +kernel
theorem dX11_now_19 : decode cX11_now 19 = .ok (.aload_n 0, 1) := by decide +kernel
theorem dX11_now_20 : decode cX11_now 20 = .ok (.getfield 19, 3) := by decide +kernel
theorem dX11_now_23 : decode cX11_now 23 = .ok (.invokevirtual 133, 3) := by decide +kernel
theorem dX11_now_26 : decode cX11_now 26 = .ok (.iload_n 1, 1) := by decide +kernel
theorem dX11_now_27 : decode cX11_now 27 = .ok (.tableswitch 105 0 4 #[33, 57, 69, 81, 97], 33) := by decide +kernel
theorem dX11_now_60 : decode cX11_now 60 = .ok (.aload_n 0, 1) := by decide +kernel
theorem dX11_now_61 : decode cX11_now 61 = .ok (.getfield 26, 3) := by decide +kernel
theorem dX11_now_64 : decode cX11_now 64 = .ok (.aload_n 0, 1) := by decide +kernel
theorem dX11_now_65 : decode cX11_now 65 = .ok (.getfield 82, 3) := by decide +kernel
theorem dX11_now_68 : decode cX11_now 68 = .ok (.aload_n 0, 1) := by decide +kernel
theorem dX11_now_69 : decode cX11_now 69 = .ok (.getfield 19, 3) := by decide +kernel
theorem dX11_now_72 : decode cX11_now 72 = .ok (.invokevirtual 178, 3) := by decide +kernel
theorem dX11_now_75 : decode cX11_now 75 = .ok (.ifCond .eq 7, 3) := by decide +kernel
theorem dX11_now_78 : decode cX11_now 78 = .ok (.iconst 1, 1) := by decide +kernel
theorem dX11_now_79 : decode cX11_now 79 = .ok (.goto 4, 3) := by decide +kernel
theorem dX11_now_82 : decode cX11_now 82 = .ok (.iconst 0, 1) := by decide +kernel
theorem dX11_now_83 : decode cX11_now 83 = .ok (.ireturn, 1) := by decide +kernel
theorem dX11_now_84 : decode cX11_now 84 = .ok (.aload_n 0, 1) := by decide +kernel
theorem dX11_now_85 : decode cX11_now 85 = .ok (.getfield 26, 3) := by decide +kernel
theorem dX11_now_88 : decode cX11_now 88 = .ok (.aload_n 0, 1) := by decide +kernel
theorem dX11_now_89 : decode cX11_now 89 = .ok (.getfield 82, 3) := by decide +kernel
theorem dX11_now_92 : decode cX11_now 92 = .ok (.invokevirtual 182, 3) := by decide +kernel
theorem dX11_now_95 : decode cX11_now 95 = .ok (.ireturn, 1) := by decide +kernel
theorem dX11_now_96 : decode cX11_now 96 = .ok (.aload_n 0, 1) := by decide +kernel
theorem dX11_now_97 : decode cX11_now 97 = .ok (.getfield 26, 3) := by decide +kernel
theorem dX11_now_100 : decode cX11_now 100 = .ok (.aload_n 0, 1) := by decide +kernel
theorem dX11_now_101 : decode cX11_now 101 = .ok (.getfield 82, 3) := by decide +kernel
theorem dX11_now_104 : decode cX11_now 104 = .ok (.invokevirtual 185, 3) := by decide +kernel
theorem dX11_now_107 : decode cX11_now 107 = .ok (.ireturn, 1) := by decide +kernel
theorem dX11_now_108 : decode cX11_now 108 = .ok (.aload_n 0, 1) := by decide +kernel
theorem dX11_now_109 : decode cX11_now 109 = .ok (.getfield 26, 3) := by decide +kernel
theorem dX11_now_112 : decode cX11_now 112 = .ok (.aload_n 0, 1) := by decide +kernel
theorem dX11_now_113 : decode cX11_now 113 = .ok (.getfield 82, 3) := by decide +kernel
theorem dX11_now_116 : decode cX11_now 116 = .ok (.aload_n 0, 1) := by decide +kernel
theorem dX11_now_117 : decode cX11_now 117 = .ok (.getfield 19, 3) := by decide +kernel
theorem dX11_now_120 : decode cX11_now 120 = .ok (.invokevirtual 188, 3) := by decide +kernel
theorem dX11_now_123 : decode cX11_now 123 = .ok (.ireturn, 1) := by decide +kernel
theorem dX11_now_124 : decode cX11_now 124 = .ok (.aload_n 0, 1) := by decide +kernel
theorem dX11_now_125 : decode cX11_now 125 = .ok (.getfield 19, 3) := by decide +kernel
theorem dX11_now_128 : decode cX11_now 128 = .ok (.invokevirtual 192, 3) := by decide +kernel
theorem dX11_now_131 : decode cX11_now 131 = .ok (.ireturn, 1) := by decide +kernel
theorem dX11_now_132 : decode cX11_now 132 = .ok (.aload_n 0, 1) := by decide +kernel
theorem dX11_now_133 : decode cX11_now 133 = .ok (.getfield 33, 3) := by decide +kernel
theorem dX11_now_136 : decode cX11_now 136 = .ok (.getfield 196, 3) := by decide +kernel
theorem dX11_now_139 : decode cX11_now 139 = .ok (.ireturn, 1) := by decide +kernel
theorem dX11_stands_0 : decode cX11_stands 0 = .ok (.aload_n 0, 1) := by decide +kernel
theorem dX11_stands_1 : decode cX11_stands 1 = .ok (.iload_n 1, 1) := by decide +kernel
theorem dX11_stands_2 : decode cX11_stands 2 = .ok (.invokevirtual 166, 3) := by decide +kernel
theorem dX11_stands_5 : decode cX11_stands 5 = .ok (.ifCond .eq 17, 3) := by decide +kernel
theorem dX11_stands_8 : decode cX11_stands 8 = .ok (.iload_n 2, 1) := by decide +kernel
theorem dX11_stands_9 : decode cX11_stands 9 = .ok (.bipush (-9), 2) := by decide +kernel
theorem dX11_stands_11 : decode cX11_stands 11 = .ok (.if_icmp .eq 13, 3) := by decide +kernel
theorem dX11_stands_14 : decode cX11_stands 14 = .ok (.aload_n 0, 1) := by decide +kernel
theorem dX11_stands_15 : decode cX11_stands 15 = .ok (.iload_n 2, 1) := by decide +kernel
theorem dX11_stands_16 : decode cX11_stands 16 = .ok (.invokevirtual 140, 3) := by decide +kernel
theorem dX11_stands_19 : decode cX11_stands 19 = .ok (.ifCond .ne 5, 3) := by decide +kernel
theorem dX11_stands_22 : decode cX11_stands 22 = .ok (.iconst (-1), 1) := by decide +kernel
theorem dX11_stands_23 : decode cX11_stands 23 = .ok (.ireturn, 1) := by decide +kernel
theorem dX11_stands_24 : decode cX11_stands 24 = .ok (.aload_n 0, 1) := by decide +kernel
theorem dX11_stands_25 : decode cX11_stands 25 = .ok (.getfield 33, 3) := by decide +kernel
theorem dX11_stands_28 : decode cX11_stands 28 = .ok (.aload_n 0, 1) := by decide +kernel
theorem dX11_stands_29 : decode cX11_stands 29 = .ok (.getfield 19, 3) := by decide +kernel
theorem dX11_stands_32 : decode cX11_stands 32 = .ok (.invokevirtual 199, 3) := by decide +kernel
theorem dX11_stands_35 : decode cX11_stands 35 = .ok (.aload_n 0, 1) := by decide +kernel
theorem dX11_stands_36 : decode cX11_stands 36 = .ok (.getfield 19, 3) := by decide +kernel
theorem dX11_stands_39 : decode cX11_stands 39 = .ok (.iload_n 1, 1) := by decide +kernel
theorem dX11_stands_40 : decode cX11_stands 40 = .ok (.invokevirtual 175, 3) := by decide +kernel
theorem dX11_stands_43 : decode cX11_stands 43 = .ok (.istore_n 3, 1) := by decide +kernel
theorem dX11_stands_44 : decode cX11_stands 44 = .ok (.aload_n 0, 1) := by decide +kernel
theorem dX11_stands_45 : decode cX11_stands 45 = .ok (.getfield 19, 3) := by decide +kernel
theorem dX11_stands_48 : decode cX11_stands 48 = .ok (.iload_n 1, 1) := by decide +kernel
theorem dX11_stands_49 : decode cX11_stands 49 = .ok (.iload_n 2, 1) := by decide +kernel
theorem dX11_stands_50 : decode cX11_stands 50 = .ok (.invokevirtual 203, 3) := by decide +kernel
theorem dX11_stands_53 : decode cX11_stands 53 = .ok (.iload_n 3, 1) := by decide +kernel
theorem dX11_stands_54 : decode cX11_stands 54 = .ok (.ireturn, 1) := by decide +kernel
theorem dX11_gale_0 : decode cX11_gale 0 = .ok (.iload_n 1, 1) := by decide +kernel
theorem dX11_gale_1 : decode cX11_gale 1 = .ok (.invokestatic 207, 3) := by decide +kernel
theorem dX11_gale_4 : decode cX11_gale 4 = .ok (.ifCond .ne 5, 3) := by decide +kernel
theorem dX11_gale_7 : decode cX11_gale 7 = .ok (.iconst (-1), 1) := by decide +kernel
theorem dX11_gale_8 : decode cX11_gale 8 = .ok (.ireturn, 1) := by decide +kernel
theorem dX11_gale_9 : decode cX11_gale 9 = .ok (.aload_n 0, 1) := by decide +kernel
theorem dX11_gale_10 : decode cX11_gale 10 = .ok (.getfield 19, 3) := by decide +kernel
theorem dX11_gale_13 : decode cX11_gale 13 = .ok (.invokevirtual 192, 3) := by decide +kernel
theorem dX11_gale_16 : decode cX11_gale 16 = .ok (.sipush 999, 3) := by decide +kernel
theorem dX11_gale_19 : decode cX11_gale 19 = .ok (.if_icmp .lt 6, 3) := by decide +kernel
theorem dX11_gale_22 : decode cX11_gale 22 = .ok (.bipush (-2), 2) := by decide +kernel
theorem dX11_gale_24 : decode cX11_gale 24 = .ok (.ireturn, 1) := by decide +kernel
theorem dX11_gale_25 : decode cX11_gale 25 = .ok (.aload_n 0, 1) := by decide +kernel
theorem dX11_gale_26 : decode cX11_gale 26 = .ok (.getfield 33, 3) := by decide +kernel
theorem dX11_gale_29 : decode cX11_gale 29 = .ok (.aload_n 0, 1) := by decide +kernel
theorem dX11_gale_30 : decode cX11_gale 30 = .ok (.getfield 19, 3) := by decide +kernel
theorem dX11_gale_33 : decode cX11_gale 33 = .ok (.invokevirtual 199, 3) := by decide +kernel
theorem dX11_gale_36 : decode cX11_gale 36 = .ok (.aload_n 0, 1) := by decide +kernel
theorem dX11_gale_37 : decode cX11_gale 37 = .ok (.getfield 19, 3) := by decide +kernel
theorem dX11_gale_40 : decode cX11_gale 40 = .ok (.aload_n 0, 1) := by decide +kernel
theorem dX11_gale_41 : decode cX11_gale 41 = .ok (.getfield 82, 3) := by decide +kernel
theorem dX11_gale_44 : decode cX11_gale 44 = .ok (.iload_n 1, 1) := by decide +kernel
theorem dX11_gale_45 : decode cX11_gale 45 = .ok (.invokevirtual 210, 3) := by decide +kernel
theorem dX11_gale_48 : decode cX11_gale 48 = .ok (.aload_n 0, 1) := by decide +kernel
theorem dX11_gale_49 : decode cX11_gale 49 = .ok (.getfield 19, 3) := by decide +kernel
theorem dX11_gale_52 : decode cX11_gale 52 = .ok (.aload_n 0, 1) := by decide +kernel
theorem dX11_gale_53 : decode cX11_gale 53 = .ok (.getfield 82, 3) := by decide +kernel
theorem dX11_gale_56 : decode cX11_gale 56 = .ok (.invokevirtual 214, 3) := by decide +kernel
theorem dX11_gale_59 : decode cX11_gale 59 = .ok (.ireturn, 1) := by decide +kernel
theorem dX11_join_0 : decode cX11_join 0 = .ok (.aload_n 0, 1) := by decide +kernel
theorem dX11_join_1 : decode cX11_join 1 = .ok (.iload_n 1, 1) := by decide +kernel
theorem dX11_join_2 : decode cX11_join 2 = .ok (.iload_n 2, 1) := by decide +kernel
theorem dX11_join_3 : decode cX11_join 3 = .ok (.invokevirtual 152, 3) := by decide +kernel
theorem dX11_join_6 : decode cX11_join 6 = .ok (.ifCond .eq 12, 3) := by decide +kernel
theorem dX11_join_9 : decode cX11_join 9 = .ok (.iload_n 3, 1) := by decide +kernel
theorem dX11_join_10 : decode cX11_join 10 = .ok (.iconst 0, 1) := by decide +kernel
theorem dX11_join_11 : decode cX11_join 11 = .ok (.iconst 3, 1) := by decide +kernel
theorem dX11_join_12 : decode cX11_join 12 = .ok (.invokestatic 93, 3) := by decide +kernel
theorem dX11_join_15 : decode cX11_join 15 = .ok (.ifCond .ne 5, 3) := by decide +kernel
theorem dX11_join_18 : decode cX11_join 18 = .ok (.iconst (-1), 1) := by decide +kernel
theorem dX11_join_19 : decode cX11_join 19 = .ok (.ireturn, 1) := by decide +kernel
theorem dX11_join_20 : decode cX11_join 20 = .ok (.aload_n 0, 1) := by decide +kernel
theorem dX11_join_21 : decode cX11_join 21 = .ok (.getfield 33, 3) := by decide +kernel
theorem dX11_join_24 : decode cX11_join 24 = .ok (.aload_n 0, 1) := by decide +kernel
theorem dX11_join_25 : decode cX11_join 25 = .ok (.getfield 19, 3) := by decide +kernel
theorem dX11_join_28 : decode cX11_join 28 = .ok (.invokevirtual 199, 3) := by decide +kernel
theorem dX11_join_31 : decode cX11_join 31 = .ok (.aload_n 0, 1) := by decide +kernel
theorem dX11_join_32 : decode cX11_join 32 = .ok (.getfield 19, 3) := by decide +kernel
theorem dX11_join_35 : decode cX11_join 35 = .ok (.iconst 2, 1) := by decide +kernel
theorem dX11_join_36 : decode cX11_join 36 = .ok (.iload_n 1, 1) := by decide +kernel
theorem dX11_join_37 : decode cX11_join 37 = .ok (.imul, 1) := by decide +kernel
theorem dX11_join_38 : decode cX11_join 38 = .ok (.iload_n 2, 1) := by decide +kernel
theorem dX11_join_39 : decode cX11_join 39 = .ok (.iadd, 1) := by decide +kernel
theorem dX11_join_40 : decode cX11_join 40 = .ok (.invokevirtual 156, 3) := by decide +kernel
theorem dX11_join_43 : decode cX11_join 43 = .ok (.istore 4, 2) := by decide +kernel
theorem dX11_join_45 : decode cX11_join 45 = .ok (.aload_n 0, 1) := by decide +kernel
theorem dX11_join_46 : decode cX11_join 46 = .ok (.getfield 19, 3) := by decide +kernel
theorem dX11_join_49 : decode cX11_join 49 = .ok (.iconst 2, 1) := by decide +kernel
theorem dX11_join_50 : decode cX11_join 50 = .ok (.iload_n 1, 1) := by decide +kernel
theorem dX11_join_51 : decode cX11_join 51 = .ok (.imul, 1) := by decide +kernel
theorem dX11_join_52 : decode cX11_join 52 = .ok (.iload_n 2, 1) := by decide +kernel
theorem dX11_join_53 : decode cX11_join 53 = .ok (.iadd, 1) := by decide +kernel
theorem dX11_join_54 : decode cX11_join 54 = .ok (.iload_n 3, 1) := by decide +kernel
theorem dX11_join_55 : decode cX11_join 55 = .ok (.invokevirtual 217, 3) := by decide +kernel
theorem dX11_join_58 : decode cX11_join 58 = .ok (.iload 4, 2) := by decide +kernel
theorem dX11_join_60 : decode cX11_join 60 = .ok (.ireturn, 1) := by decide +kernel
theorem dX11_spring_0 : decode cX11_spring 0 = .ok (.aload_n 0, 1) := by decide +kernel
theorem dX11_spring_1 : decode cX11_spring 1 = .ok (.getfield 33, 3) := by decide +kernel
theorem dX11_spring_4 : decode cX11_spring 4 = .ok (.aload_n 0, 1) := by decide +kernel
theorem dX11_spring_5 : decode cX11_spring 5 = .ok (.getfield 19, 3) := by decide +kernel
theorem dX11_spring_8 : decode cX11_spring 8 = .ok (.invokevirtual 199, 3) := by decide +kernel
theorem dX11_spring_11 : decode cX11_spring 11 = .ok (.aload_n 0, 1) := by decide +kernel
theorem dX11_spring_12 : decode cX11_spring 12 = .ok (.getfield 19, 3) := by decide +kernel
theorem dX11_spring_15 : decode cX11_spring 15 = .ok (.aload_n 0, 1) := by decide +kernel
theorem dX11_spring_16 : decode cX11_spring 16 = .ok (.getfield 82, 3) := by decide +kernel
theorem dX11_spring_19 : decode cX11_spring 19 = .ok (.invokevirtual 220, 3) := by decide +kernel
theorem dX11_spring_22 : decode cX11_spring 22 = .ok (.ireturn, 1) := by decide +kernel
theorem dX11_undo_0 : decode cX11_undo 0 = .ok (.aload_n 0, 1) := by decide +kernel
theorem dX11_undo_1 : decode cX11_undo 1 = .ok (.getfield 33, 3) := by decide +kernel
theorem dX11_undo_4 : decode cX11_undo 4 = .ok (.aload_n 0, 1) := by decide +kernel
theorem dX11_undo_5 : decode cX11_undo 5 = .ok (.getfield 19, 3) := by decide +kernel
theorem dX11_undo_8 : decode cX11_undo 8 = .ok (.invokevirtual 223, 3) := by decide +kernel
theorem dX11_undo_11 : decode cX11_undo 11 = .ok (.ifCond .eq 13, 3) := by decide +kernel
theorem dX11_undo_14 : decode cX11_undo 14 = .ok (.aload_n 0, 1) := by decide +kernel
theorem dX11_undo_15 : decode cX11_undo 15 = .ok (.getfield 33, 3) := by decide +kernel
theorem dX11_undo_18 : decode cX11_undo 18 = .ok (.getfield 196, 3) := by decide +kernel
theorem dX11_undo_21 : decode cX11_undo 21 = .ok (.goto 5, 3) := by decide +kernel
theorem dX11_undo_24 : decode cX11_undo 24 = .ok (.bipush (-2), 2) := by decide +kernel
theorem dX11_undo_26 : decode cX11_undo 26 = .ok (.ireturn, 1) := by decide +kernel
theorem dX11_most_0 : decode cX11_most 0 = .ok (.iload_n 1, 1) := by decide +kernel
theorem dX11_most_1 : decode cX11_most 1 = .ok (.bipush (-9), 2) := by decide +kernel
theorem dX11_most_3 : decode cX11_most 3 = .ok (.if_icmp .eq 13, 3) := by decide +kernel
theorem dX11_most_6 : decode cX11_most 6 = .ok (.aload_n 0, 1) := by decide +kernel
theorem dX11_most_7 : decode cX11_most 7 = .ok (.iload_n 1, 1) := by decide +kernel
theorem dX11_most_8 : decode cX11_most 8 = .ok (.invokevirtual 166, 3) := by decide +kernel
theorem dX11_most_11 : decode cX11_most 11 = .ok (.ifCond .ne 5, 3) := by decide +kernel
theorem dX11_most_14 : decode cX11_most 14 = .ok (.iconst (-1), 1) := by decide +kernel
theorem dX11_most_15 : decode cX11_most 15 = .ok (.ireturn, 1) := by decide +kernel
theorem dX11_most_16 : decode cX11_most 16 = .ok (.aload_n 0, 1) := by decide +kernel
theorem dX11_most_17 : decode cX11_most 17 = .ok (.getfield 54, 3) := by decide +kernel
theorem dX11_most_20 : decode cX11_most 20 = .ok (.aload_n 0, 1) := by decide +kernel
theorem dX11_most_21 : decode cX11_most 21 = .ok (.getfield 82, 3) := by decide +kernel
theorem dX11_most_24 : decode cX11_most 24 = .ok (.aload_n 0, 1) := by decide +kernel
theorem dX11_most_25 : decode cX11_most 25 = .ok (.getfield 19, 3) := by decide +kernel
theorem dX11_most_28 : decode cX11_most 28 = .ok (.invokevirtual 227, 3) := by decide +kernel
theorem dX11_most_31 : decode cX11_most 31 = .ok (.iload_n 1, 1) := by decide +kernel
theorem dX11_most_32 : decode cX11_most 32 = .ok (.bipush (-9), 2) := by decide +kernel
theorem dX11_most_34 : decode cX11_most 34 = .ok (.if_icmp .ne 17, 3) := by decide +kernel
theorem dX11_most_37 : decode cX11_most 37 = .ok (.aload_n 0, 1) := by decide +kernel
theorem dX11_most_38 : decode cX11_most 38 = .ok (.getfield 54, 3) := by decide +kernel
theorem dX11_most_41 : decode cX11_most 41 = .ok (.aload_n 0, 1) := by decide +kernel
theorem dX11_most_42 : decode cX11_most 42 = .ok (.getfield 82, 3) := by decide +kernel
theorem dX11_most_45 : decode cX11_most 45 = .ok (.invokevirtual 230, 3) := by decide +kernel
theorem dX11_most_48 : decode cX11_most 48 = .ok (.goto 11, 3) := by decide +kernel
theorem dX11_most_51 : decode cX11_most 51 = .ok (.aload_n 0, 1) := by decide +kernel
theorem dX11_most_52 : decode cX11_most 52 = .ok (.getfield 54, 3) := by decide +kernel
theorem dX11_most_55 : decode cX11_most 55 = .ok (.iload_n 1, 1) := by decide +kernel
theorem dX11_most_56 : decode cX11_most 56 = .ok (.invokevirtual 233, 3) := by decide +kernel
theorem dX11_most_59 : decode cX11_most 59 = .ok (.ireturn, 1) := by decide +kernel
theorem dX11_richest_0 : decode cX11_richest 0 = .ok (.iload_n 1, 1) := by decide +kernel
theorem dX11_richest_1 : decode cX11_richest 1 = .ok (.bipush (-9), 2) := by decide +kernel
theorem dX11_richest_3 : decode cX11_richest 3 = .ok (.if_icmp .eq 13, 3) := by decide +kernel
theorem dX11_richest_6 : decode cX11_richest 6 = .ok (.aload_n 0, 1) := by decide +kernel
theorem dX11_richest_7 : decode cX11_richest 7 = .ok (.iload_n 1, 1) := by decide +kernel
theorem dX11_richest_8 : decode cX11_richest 8 = .ok (.invokevirtual 166, 3) := by decide +kernel
theorem dX11_richest_11 : decode cX11_richest 11 = .ok (.ifCond .ne 5, 3) := by decide +kernel
theorem dX11_richest_14 : decode cX11_richest 14 = .ok (.iconst (-1), 1) := by decide +kernel
theorem dX11_richest_15 : decode cX11_richest 15 = .ok (.ireturn, 1) := by decide +kernel
theorem dX11_richest_16 : decode cX11_richest 16 = .ok (.aload_n 0, 1) := by decide +kernel
theorem dX11_richest_17 : decode cX11_richest 17 = .ok (.getfield 54, 3) := by decide +kernel
theorem dX11_richest_20 : decode cX11_richest 20 = .ok (.aload_n 0, 1) := by decide +kernel
theorem dX11_richest_21 : decode cX11_richest 21 = .ok (.getfield 82, 3) := by decide +kernel
theorem dX11_richest_24 : decode cX11_richest 24 = .ok (.aload_n 0, 1) := by decide +kernel
theorem dX11_richest_25 : decode cX11_richest 25 = .ok (.getfield 19, 3) := by decide +kernel
theorem dX11_richest_28 : decode cX11_richest 28 = .ok (.invokevirtual 236, 3) := by decide +kernel
theorem dX11_richest_31 : decode cX11_richest 31 = .ok (.iload_n 1, 1) := by decide +kernel
theorem dX11_richest_32 : decode cX11_richest 32 = .ok (.bipush (-9), 2) := by decide +kernel
theorem dX11_richest_34 : decode cX11_richest 34 = .ok (.if_icmp .ne 17, 3) := by decide +kernel
theorem dX11_richest_37 : decode cX11_richest 37 = .ok (.aload_n 0, 1) := by decide +kernel
theorem dX11_richest_38 : decode cX11_richest 38 = .ok (.getfield 54, 3) := by decide +kernel
theorem dX11_richest_41 : decode cX11_richest 41 = .ok (.aload_n 0, 1) := by decide +kernel
theorem dX11_richest_42 : decode cX11_richest 42 = .ok (.getfield 82, 3) := by decide +kernel
theorem dX11_richest_45 : decode cX11_richest 45 = .ok (.invokevirtual 239, 3) := by decide +kernel
theorem dX11_richest_48 : decode cX11_richest 48 = .ok (.goto 11, 3) := by decide +kernel
theorem dX11_richest_51 : decode cX11_richest 51 = .ok (.aload_n 0, 1) := by decide +kernel
theorem dX11_richest_52 : decode cX11_richest 52 = .ok (.getfield 54, 3) := by decide +kernel
theorem dX11_richest_55 : decode cX11_richest 55 = .ok (.iload_n 1, 1) := by decide +kernel
theorem dX11_richest_56 : decode cX11_richest 56 = .ok (.invokevirtual 233, 3) := by decide +kernel
theorem dX11_richest_59 : decode cX11_richest 59 = .ok (.ireturn, 1) := by decide +kernel
theorem dX11_firstOut_0 : decode cX11_firstOut 0 = .ok (.iload_n 1, 1) := by decide +kernel
theorem dX11_firstOut_1 : decode cX11_firstOut 1 = .ok (.invokestatic 207, 3) := by decide +kernel
theorem dX11_firstOut_4 : decode cX11_firstOut 4 = .ok (.ifCond .eq 12, 3) := by decide +kernel
theorem dX11_firstOut_7 : decode cX11_firstOut 7 = .ok (.iload_n 2, 1) := by decide +kernel
theorem dX11_firstOut_8 : decode cX11_firstOut 8 = .ok (.iconst 0, 1) := by decide +kernel
theorem dX11_firstOut_9 : decode cX11_firstOut 9 = .ok (.iconst 1, 1) := by decide +kernel
theorem dX11_firstOut_10 : decode cX11_firstOut 10 = .ok (.invokestatic 93, 3) := by decide +kernel
theorem dX11_firstOut_13 : decode cX11_firstOut 13 = .ok (.ifCond .ne 5, 3) := by decide +kernel
theorem dX11_firstOut_16 : decode cX11_firstOut 16 = .ok (.iconst (-1), 1) := by decide +kernel
theorem dX11_firstOut_17 : decode cX11_firstOut 17 = .ok (.ireturn, 1) := by decide +kernel
theorem dX11_firstOut_18 : decode cX11_firstOut 18 = .ok (.iload_n 2, 1) := by decide +kernel
theorem dX11_firstOut_19 : decode cX11_firstOut 19 = .ok (.ifCond .ne 22, 3) := by decide +kernel
theorem dX11_firstOut_22 : decode cX11_firstOut 22 = .ok (.aload_n 0, 1) := by decide +kernel
theorem dX11_firstOut_23 : decode cX11_firstOut 23 = .ok (.getfield 61, 3) := by decide +kernel
theorem dX11_firstOut_26 : decode cX11_firstOut 26 = .ok (.aload_n 0, 1) := by decide +kernel
theorem dX11_firstOut_27 : decode cX11_firstOut 27 = .ok (.getfield 82, 3) := by decide +kernel
theorem dX11_firstOut_30 : decode cX11_firstOut 30 = .ok (.aload_n 0, 1) := by decide +kernel
theorem dX11_firstOut_31 : decode cX11_firstOut 31 = .ok (.getfield 19, 3) := by decide +kernel
theorem dX11_firstOut_34 : decode cX11_firstOut 34 = .ok (.iload_n 1, 1) := by decide +kernel
theorem dX11_firstOut_35 : decode cX11_firstOut 35 = .ok (.invokevirtual 242, 3) := by decide +kernel
theorem dX11_firstOut_38 : decode cX11_firstOut 38 = .ok (.goto 19, 3) := by decide +kernel
theorem dX11_firstOut_41 : decode cX11_firstOut 41 = .ok (.aload_n 0, 1) := by decide +kernel
theorem dX11_firstOut_42 : decode cX11_firstOut 42 = .ok (.getfield 61, 3) := by decide +kernel
theorem dX11_firstOut_45 : decode cX11_firstOut 45 = .ok (.aload_n 0, 1) := by decide +kernel
theorem dX11_firstOut_46 : decode cX11_firstOut 46 = .ok (.getfield 82, 3) := by decide +kernel
theorem dX11_firstOut_49 : decode cX11_firstOut 49 = .ok (.aload_n 0, 1) := by decide +kernel
theorem dX11_firstOut_50 : decode cX11_firstOut 50 = .ok (.getfield 19, 3) := by decide +kernel
theorem dX11_firstOut_53 : decode cX11_firstOut 53 = .ok (.iload_n 1, 1) := by decide +kernel
theorem dX11_firstOut_54 : decode cX11_firstOut 54 = .ok (.invokevirtual 246, 3) := by decide +kernel
theorem dX11_firstOut_57 : decode cX11_firstOut 57 = .ok (.ireturn, 1) := by decide +kernel
theorem dX11_holdsFor_0 : decode cX11_holdsFor 0 = .ok (.iload_n 1, 1) := by decide +kernel
theorem dX11_holdsFor_1 : decode cX11_holdsFor 1 = .ok (.invokestatic 207, 3) := by decide +kernel
theorem dX11_holdsFor_4 : decode cX11_holdsFor 4 = .ok (.ifCond .ne 5, 3) := by decide +kernel
theorem dX11_holdsFor_7 : decode cX11_holdsFor 7 = .ok (.iconst (-1), 1) := by decide +kernel
theorem dX11_holdsFor_8 : decode cX11_holdsFor 8 = .ok (.ireturn, 1) := by decide +kernel
theorem dX11_holdsFor_9 : decode cX11_holdsFor 9 = .ok (.aload_n 0, 1) := by decide +kernel
theorem dX11_holdsFor_10 : decode cX11_holdsFor 10 = .ok (.getfield 26, 3) := by decide +kernel
theorem dX11_holdsFor_13 : decode cX11_holdsFor 13 = .ok (.aload_n 0, 1) := by decide +kernel
theorem dX11_holdsFor_14 : decode cX11_holdsFor 14 = .ok (.getfield 82, 3) := by decide +kernel
theorem dX11_holdsFor_17 : decode cX11_holdsFor 17 = .ok (.aload_n 0, 1) := by decide +kernel
theorem dX11_holdsFor_18 : decode cX11_holdsFor 18 = .ok (.getfield 19, 3) := by decide +kernel
theorem dX11_holdsFor_21 : decode cX11_holdsFor 21 = .ok (.invokevirtual 133, 3) := by decide +kernel
theorem dX11_holdsFor_24 : decode cX11_holdsFor 24 = .ok (.aload_n 0, 1) := by decide +kernel
theorem dX11_holdsFor_25 : decode cX11_holdsFor 25 = .ok (.getfield 61, 3) := by decide +kernel
theorem dX11_holdsFor_28 : decode cX11_holdsFor 28 = .ok (.aload_n 0, 1) := by decide +kernel
theorem dX11_holdsFor_29 : decode cX11_holdsFor 29 = .ok (.getfield 82, 3) := by decide +kernel
theorem dX11_holdsFor_32 : decode cX11_holdsFor 32 = .ok (.aload_n 0, 1) := by decide +kernel
theorem dX11_holdsFor_33 : decode cX11_holdsFor 33 = .ok (.getfield 19, 3) := by decide +kernel
theorem dX11_holdsFor_36 : decode cX11_holdsFor 36 = .ok (.aload_n 0, 1) := by decide +kernel
theorem dX11_holdsFor_37 : decode cX11_holdsFor 37 = .ok (.getfield 26, 3) := by decide +kernel
theorem dX11_holdsFor_40 : decode cX11_holdsFor 40 = .ok (.iload_n 1, 1) := by decide +kernel
theorem dX11_holdsFor_41 : decode cX11_holdsFor 41 = .ok (.invokevirtual 249, 3) := by decide +kernel
theorem dX11_holdsFor_44 : decode cX11_holdsFor 44 = .ok (.ireturn, 1) := by decide +kernel
theorem dX11_bolts_0 : decode cX11_bolts 0 = .ok (.iload_n 1, 1) := by decide +kernel
theorem dX11_bolts_1 : decode cX11_bolts 1 = .ok (.invokestatic 207, 3) := by decide +kernel
theorem dX11_bolts_4 : decode cX11_bolts 4 = .ok (.ifCond .eq 22, 3) := by decide +kernel
theorem dX11_bolts_7 : decode cX11_bolts 7 = .ok (.iload_n 2, 1) := by decide +kernel
theorem dX11_bolts_8 : decode cX11_bolts 8 = .ok (.iconst 1, 1) := by decide +kernel
theorem dX11_bolts_9 : decode cX11_bolts 9 = .ok (.bipush 30, 2) := by decide +kernel
theorem dX11_bolts_11 : decode cX11_bolts 11 = .ok (.invokestatic 93, 3) := by decide +kernel
theorem dX11_bolts_14 : decode cX11_bolts 14 = .ok (.ifCond .eq 12, 3) := by decide +kernel
theorem dX11_bolts_17 : decode cX11_bolts 17 = .ok (.iload_n 3, 1) := by decide +kernel
theorem dX11_bolts_18 : decode cX11_bolts 18 = .ok (.iconst 0, 1) := by decide +kernel
theorem dX11_bolts_19 : decode cX11_bolts 19 = .ok (.iconst 1, 1) := by decide +kernel
theorem dX11_bolts_20 : decode cX11_bolts 20 = .ok (.invokestatic 93, 3) := by decide +kernel
theorem dX11_bolts_23 : decode cX11_bolts 23 = .ok (.ifCond .ne 5, 3) := by decide +kernel
theorem dX11_bolts_26 : decode cX11_bolts 26 = .ok (.iconst (-1), 1) := by decide +kernel
theorem dX11_bolts_27 : decode cX11_bolts 27 = .ok (.ireturn, 1) := by decide +kernel
theorem dX11_bolts_28 : decode cX11_bolts 28 = .ok (.aload_n 0, 1) := by decide +kernel
theorem dX11_bolts_29 : decode cX11_bolts 29 = .ok (.getfield 61, 3) := by decide +kernel
theorem dX11_bolts_32 : decode cX11_bolts 32 = .ok (.aload_n 0, 1) := by decide +kernel
theorem dX11_bolts_33 : decode cX11_bolts 33 = .ok (.getfield 82, 3) := by decide +kernel
theorem dX11_bolts_36 : decode cX11_bolts 36 = .ok (.aload_n 0, 1) := by decide +kernel
theorem dX11_bolts_37 : decode cX11_bolts 37 = .ok (.getfield 19, 3) := by decide +kernel
theorem dX11_bolts_40 : decode cX11_bolts 40 = .ok (.iload_n 1, 1) := by decide +kernel
theorem dX11_bolts_41 : decode cX11_bolts 41 = .ok (.iload_n 2, 1) := by decide +kernel
theorem dX11_bolts_42 : decode cX11_bolts 42 = .ok (.invokevirtual 253, 3) := by decide +kernel
theorem dX11_bolts_45 : decode cX11_bolts 45 = .ok (.istore 4, 2) := by decide +kernel
theorem dX11_bolts_47 : decode cX11_bolts 47 = .ok (.iload_n 3, 1) := by decide +kernel
theorem dX11_bolts_48 : decode cX11_bolts 48 = .ok (.ifCond .ne 8, 3) := by decide +kernel
theorem dX11_bolts_51 : decode cX11_bolts 51 = .ok (.iload 4, 2) := by decide +kernel
theorem dX11_bolts_53 : decode cX11_bolts 53 = .ok (.goto 25, 3) := by decide +kernel
theorem dX11_bolts_56 : decode cX11_bolts 56 = .ok (.iload 4, 2) := by decide +kernel
theorem dX11_bolts_58 : decode cX11_bolts 58 = .ok (.aload_n 0, 1) := by decide +kernel
theorem dX11_bolts_59 : decode cX11_bolts 59 = .ok (.getfield 61, 3) := by decide +kernel
theorem dX11_bolts_62 : decode cX11_bolts 62 = .ok (.aload_n 0, 1) := by decide +kernel
theorem dX11_bolts_63 : decode cX11_bolts 63 = .ok (.getfield 82, 3) := by decide +kernel
theorem dX11_bolts_66 : decode cX11_bolts 66 = .ok (.aload_n 0, 1) := by decide +kernel
theorem dX11_bolts_67 : decode cX11_bolts 67 = .ok (.getfield 19, 3) := by decide +kernel
theorem dX11_bolts_70 : decode cX11_bolts 70 = .ok (.iload_n 1, 1) := by decide +kernel
theorem dX11_bolts_71 : decode cX11_bolts 71 = .ok (.iload_n 2, 1) := by decide +kernel
theorem dX11_bolts_72 : decode cX11_bolts 72 = .ok (.invokevirtual 257, 3) := by decide +kernel
theorem dX11_bolts_75 : decode cX11_bolts 75 = .ok (.iconst (-1), 1) := by decide +kernel
theorem dX11_bolts_76 : decode cX11_bolts 76 = .ok (.ixor, 1) := by decide +kernel
theorem dX11_bolts_77 : decode cX11_bolts 77 = .ok (.iand, 1) := by decide +kernel
theorem dX11_bolts_78 : decode cX11_bolts 78 = .ok (.ireturn, 1) := by decide +kernel
theorem dX11_odds_0 : decode cX11_odds 0 = .ok (.aload_n 0, 1) := by decide +kernel
theorem dX11_odds_1 : decode cX11_odds 1 = .ok (.iload_n 1, 1) := by decide +kernel
theorem dX11_odds_2 : decode cX11_odds 2 = .ok (.iload_n 2, 1) := by decide +kernel
theorem dX11_odds_3 : decode cX11_odds 3 = .ok (.invokevirtual 152, 3) := by decide +kernel
theorem dX11_odds_6 : decode cX11_odds 6 = .ok (.ifCond .eq 23, 3) := by decide +kernel
theorem dX11_odds_9 : decode cX11_odds 9 = .ok (.iload_n 3, 1) := by decide +kernel
theorem dX11_odds_10 : decode cX11_odds 10 = .ok (.iconst 0, 1) := by decide +kernel
theorem dX11_odds_11 : decode cX11_odds 11 = .ok (.bipush 6, 2) := by decide +kernel
theorem dX11_odds_13 : decode cX11_odds 13 = .ok (.invokestatic 93, 3) := by decide +kernel
theorem dX11_odds_16 : decode cX11_odds 16 = .ok (.ifCond .eq 13, 3) := by decide +kernel
theorem dX11_odds_19 : decode cX11_odds 19 = .ok (.iload 4, 2) := by decide +kernel
theorem dX11_odds_21 : decode cX11_odds 21 = .ok (.iconst 0, 1) := by decide +kernel
theorem dX11_odds_22 : decode cX11_odds 22 = .ok (.iconst 1, 1) := by decide +kernel
theorem dX11_odds_23 : decode cX11_odds 23 = .ok (.invokestatic 93, 3) := by decide +kernel
theorem dX11_odds_26 : decode cX11_odds 26 = .ok (.ifCond .ne 7, 3) := by decide +kernel
theorem dX11_odds_29 : decode cX11_odds 29 = .ok (.ldc2_w 260, 3) := by decide +kernel
theorem dX11_odds_32 : decode cX11_odds 32 = .ok (.lreturn, 1) := by decide +kernel
theorem dX11_odds_33 : decode cX11_odds 33 = .ok (.iconst 2, 1) := by decide +kernel
theorem dX11_odds_34 : decode cX11_odds 34 = .ok (.iload_n 1, 1) := by decide +kernel
theorem dX11_odds_35 : decode cX11_odds 35 = .ok (.imul, 1) := by decide +kernel
theorem dX11_odds_36 : decode cX11_odds 36 = .ok (.iload_n 2, 1) := by decide +kernel
theorem dX11_odds_37 : decode cX11_odds 37 = .ok (.iadd, 1) := by decide +kernel
theorem dX11_odds_38 : decode cX11_odds 38 = .ok (.istore 5, 2) := by decide +kernel
theorem dX11_odds_40 : decode cX11_odds 40 = .ok (.aload_n 0, 1) := by decide +kernel
theorem dX11_odds_41 : decode cX11_odds 41 = .ok (.getfield 19, 3) := by decide +kernel
theorem dX11_odds_44 : decode cX11_odds 44 = .ok (.iload 5, 2) := by decide +kernel
theorem dX11_odds_46 : decode cX11_odds 46 = .ok (.invokevirtual 163, 3) := by decide +kernel
theorem dX11_odds_49 : decode cX11_odds 49 = .ok (.ifCond .eq 7, 3) := by decide +kernel
theorem dX11_odds_52 : decode cX11_odds 52 = .ok (.ldc2_w 262, 3) := by decide +kernel
theorem dX11_odds_55 : decode cX11_odds 55 = .ok (.lreturn, 1) := by decide +kernel
theorem dX11_odds_56 : decode cX11_odds 56 = .ok (.iload_n 3, 1) := by decide +kernel
theorem dX11_odds_57 : decode cX11_odds 57 = .ok (.invokestatic 264, 3) := by decide +kernel
theorem dX11_odds_60 : decode cX11_odds 60 = .ok (.lstore 6, 2) := by decide +kernel
theorem dX11_odds_62 : decode cX11_odds 62 = .ok (.aload_n 0, 1) := by decide +kernel
theorem dX11_odds_63 : decode cX11_odds 63 = .ok (.getfield 68, 3) := by decide +kernel
theorem dX11_odds_66 : decode cX11_odds 66 = .ok (.aload_n 0, 1) := by decide +kernel
theorem dX11_odds_67 : decode cX11_odds 67 = .ok (.getfield 19, 3) := by decide +kernel
theorem dX11_odds_70 : decode cX11_odds 70 = .ok (.iload 5, 2) := by decide +kernel
theorem dX11_odds_72 : decode cX11_odds 72 = .ok (.invokevirtual 156, 3) := by decide +kernel
theorem dX11_odds_75 : decode cX11_odds 75 = .ok (.aload_n 0, 1) := by decide +kernel
theorem dX11_odds_76 : decode cX11_odds 76 = .ok (.getfield 19, 3) := by decide +kernel
theorem dX11_odds_79 : decode cX11_odds 79 = .ok (.iload 5, 2) := by decide +kernel
theorem dX11_odds_81 : decode cX11_odds 81 = .ok (.invokevirtual 160, 3) := by decide +kernel
theorem dX11_odds_84 : decode cX11_odds 84 = .ok (.aload_n 0, 1) := by decide +kernel
theorem dX11_odds_85 : decode cX11_odds 85 = .ok (.getfield 82, 3) := by decide +kernel
theorem dX11_odds_88 : decode cX11_odds 88 = .ok (.iload_n 1, 1) := by decide +kernel
theorem dX11_odds_89 : decode cX11_odds 89 = .ok (.invokevirtual 268, 3) := by decide +kernel
theorem dX11_odds_92 : decode cX11_odds 92 = .ok (.iload_n 3, 1) := by decide +kernel
theorem dX11_odds_93 : decode cX11_odds 93 = .ok (.invokevirtual 271, 3) := by decide +kernel
theorem dX11_odds_96 : decode cX11_odds 96 = .ok (.lstore 8, 2) := by decide +kernel
theorem dX11_odds_98 : decode cX11_odds 98 = .ok (.lload 6, 2) := by decide +kernel
theorem dX11_odds_100 : decode cX11_odds 100 = .ok (.lload 8, 2) := by decide +kernel
theorem dX11_odds_102 : decode cX11_odds 102 = .ok (.invokestatic 275, 3) := by decide +kernel
theorem dX11_odds_105 : decode cX11_odds 105 = .ok (.lstore 10, 2) := by decide +kernel
theorem dX11_odds_107 : decode cX11_odds 107 = .ok (.iload 4, 2) := by decide +kernel
theorem dX11_odds_109 : decode cX11_odds 109 = .ok (.ifCond .ne 8, 3) := by decide +kernel
theorem dX11_odds_112 : decode cX11_odds 112 = .ok (.lload 8, 2) := by decide +kernel
theorem dX11_odds_114 : decode cX11_odds 114 = .ok (.goto 5, 3) := by decide +kernel
theorem dX11_odds_117 : decode cX11_odds 117 = .ok (.lload 6, 2) := by decide +kernel
theorem dX11_odds_119 : decode cX11_odds 119 = .ok (.lload 10, 2) := by decide +kernel
theorem dX11_odds_121 : decode cX11_odds 121 = .ok (.lconst 0, 1) := by decide +kernel
theorem dX11_odds_122 : decode cX11_odds 122 = .ok (.lcmp, 1) := by decide +kernel
theorem dX11_odds_123 : decode cX11_odds 123 = .ok (.ifCond .le 8, 3) := by decide +kernel
theorem dX11_odds_126 : decode cX11_odds 126 = .ok (.lload 10, 2) := by decide +kernel
theorem dX11_odds_128 : decode cX11_odds 128 = .ok (.goto 4, 3) := by decide +kernel
theorem dX11_odds_131 : decode cX11_odds 131 = .ok (.lconst 1, 1) := by decide +kernel
theorem dX11_odds_132 : decode cX11_odds 132 = .ok (.ldiv, 1) := by decide +kernel
theorem dX11_odds_133 : decode cX11_odds 133 = .ok (.lreturn, 1) := by decide +kernel
theorem dX11_orders_0 : decode cX11_orders 0 = .ok (.iload_n 1, 1) := by decide +kernel
theorem dX11_orders_1 : decode cX11_orders 1 = .ok (.iconst (-1), 1) := by decide +kernel
theorem dX11_orders_2 : decode cX11_orders 2 = .ok (.if_icmp .ge 5, 3) := by decide +kernel
theorem dX11_orders_5 : decode cX11_orders 5 = .ok (.iconst (-1), 1) := by decide +kernel
theorem dX11_orders_6 : decode cX11_orders 6 = .ok (.ireturn, 1) := by decide +kernel
theorem dX11_orders_7 : decode cX11_orders 7 = .ok (.iload_n 1, 1) := by decide +kernel
theorem dX11_orders_8 : decode cX11_orders 8 = .ok (.iconst (-1), 1) := by decide +kernel
theorem dX11_orders_9 : decode cX11_orders 9 = .ok (.if_icmp .ne 15, 3) := by decide +kernel
theorem dX11_orders_12 : decode cX11_orders 12 = .ok (.aload_n 0, 1) := by decide +kernel
theorem dX11_orders_13 : decode cX11_orders 13 = .ok (.getfield 75, 3) := by decide +kernel
theorem dX11_orders_16 : decode cX11_orders 16 = .ok (.aload_n 0, 1) := by decide +kernel
theorem dX11_orders_17 : decode cX11_orders 17 = .ok (.getfield 82, 3) := by decide +kernel
theorem dX11_orders_20 : decode cX11_orders 20 = .ok (.invokevirtual 279, 3) := by decide +kernel
theorem dX11_orders_23 : decode cX11_orders 23 = .ok (.ireturn, 1) := by decide +kernel
theorem dX11_orders_24 : decode cX11_orders 24 = .ok (.aload_n 0, 1) := by decide +kernel
theorem dX11_orders_25 : decode cX11_orders 25 = .ok (.getfield 75, 3) := by decide +kernel
theorem dX11_orders_28 : decode cX11_orders 28 = .ok (.aload_n 0, 1) := by decide +kernel
theorem dX11_orders_29 : decode cX11_orders 29 = .ok (.getfield 82, 3) := by decide +kernel
theorem dX11_orders_32 : decode cX11_orders 32 = .ok (.invokevirtual 280, 3) := by decide +kernel
theorem dX11_orders_35 : decode cX11_orders 35 = .ok (.ifCond .eq 6, 3) := by decide +kernel
theorem dX11_orders_38 : decode cX11_orders 38 = .ok (.bipush (-9), 2) := by decide +kernel
theorem dX11_orders_40 : decode cX11_orders 40 = .ok (.ireturn, 1) := by decide +kernel
theorem dX11_orders_41 : decode cX11_orders 41 = .ok (.iload_n 1, 1) := by decide +kernel
theorem dX11_orders_42 : decode cX11_orders 42 = .ok (.aload_n 0, 1) := by decide +kernel
theorem dX11_orders_43 : decode cX11_orders 43 = .ok (.getfield 82, 3) := by decide +kernel
theorem dX11_orders_46 : decode cX11_orders 46 = .ok (.getfield 283, 3) := by decide +kernel
theorem dX11_orders_49 : decode cX11_orders 49 = .ok (.if_icmp .ge 18, 3) := by decide +kernel
theorem dX11_orders_52 : decode cX11_orders 52 = .ok (.aload_n 0, 1) := by decide +kernel
theorem dX11_orders_53 : decode cX11_orders 53 = .ok (.getfield 75, 3) := by decide +kernel
theorem dX11_orders_56 : decode cX11_orders 56 = .ok (.aload_n 0, 1) := by decide +kernel
theorem dX11_orders_57 : decode cX11_orders 57 = .ok (.getfield 82, 3) := by decide +kernel
theorem dX11_orders_60 : decode cX11_orders 60 = .ok (.iload_n 1, 1) := by decide +kernel
theorem dX11_orders_61 : decode cX11_orders 61 = .ok (.invokevirtual 286, 3) := by decide +kernel
theorem dX11_orders_64 : decode cX11_orders 64 = .ok (.goto 5, 3) := by decide +kernel
theorem dX11_orders_67 : decode cX11_orders 67 = .ok (.bipush (-5), 2) := by decide +kernel
theorem dX11_orders_69 : decode cX11_orders 69 = .ok (.ireturn, 1) := by decide +kernel
theorem dX11_barred_0 : decode cX11_barred 0 = .ok (.aload_n 0, 1) := by decide +kernel
theorem dX11_barred_1 : decode cX11_barred 1 = .ok (.getfield 75, 3) := by decide +kernel
theorem dX11_barred_4 : decode cX11_barred 4 = .ok (.aload_n 0, 1) := by decide +kernel
theorem dX11_barred_5 : decode cX11_barred 5 = .ok (.getfield 82, 3) := by decide +kernel
theorem dX11_barred_8 : decode cX11_barred 8 = .ok (.invokevirtual 280, 3) := by decide +kernel
theorem dX11_barred_11 : decode cX11_barred 11 = .ok (.ireturn, 1) := by decide +kernel
theorem dX11_hoist_0 : decode cX11_hoist 0 = .ok (.iload_n 1, 1) := by decide +kernel
theorem dX11_hoist_1 : decode cX11_hoist 1 = .ok (.iconst 0, 1) := by decide +kernel
theorem dX11_hoist_2 : decode cX11_hoist 2 = .ok (.aload_n 0, 1) := by decide +kernel
theorem dX11_hoist_3 : decode cX11_hoist 3 = .ok (.getfield 82, 3) := by decide +kernel
theorem dX11_hoist_6 : decode cX11_hoist 6 = .ok (.getfield 120, 3) := by decide +kernel
theorem dX11_hoist_9 : decode cX11_hoist 9 = .ok (.iconst 1, 1) := by decide +kernel
theorem dX11_hoist_10 : decode cX11_hoist 10 = .ok (.isub, 1) := by decide +kernel
theorem dX11_hoist_11 : decode cX11_hoist 11 = .ok (.invokestatic 93, 3) := by decide +kernel
theorem dX11_hoist_14 : decode cX11_hoist 14 = .ok (.ifCond .eq 13, 3) := by decide +kernel
theorem dX11_hoist_17 : decode cX11_hoist 17 = .ok (.iload_n 2, 1) := by decide +kernel
theorem dX11_hoist_18 : decode cX11_hoist 18 = .ok (.iconst 1, 1) := by decide +kernel
theorem dX11_hoist_19 : decode cX11_hoist 19 = .ok (.bipush 60, 2) := by decide +kernel
theorem dX11_hoist_21 : decode cX11_hoist 21 = .ok (.invokestatic 93, 3) := by decide +kernel
theorem dX11_hoist_24 : decode cX11_hoist 24 = .ok (.ifCond .ne 5, 3) := by decide +kernel
theorem dX11_hoist_27 : decode cX11_hoist 27 = .ok (.iconst (-1), 1) := by decide +kernel
theorem dX11_hoist_28 : decode cX11_hoist 28 = .ok (.ireturn, 1) := by decide +kernel
theorem dX11_hoist_29 : decode cX11_hoist 29 = .ok (.aload_n 0, 1) := by decide +kernel
theorem dX11_hoist_30 : decode cX11_hoist 30 = .ok (.getfield 26, 3) := by decide +kernel
theorem dX11_hoist_33 : decode cX11_hoist 33 = .ok (.aload_n 0, 1) := by decide +kernel
theorem dX11_hoist_34 : decode cX11_hoist 34 = .ok (.getfield 82, 3) := by decide +kernel
theorem dX11_hoist_37 : decode cX11_hoist 37 = .ok (.aload_n 0, 1) := by decide +kernel
theorem dX11_hoist_38 : decode cX11_hoist 38 = .ok (.getfield 19, 3) := by decide +kernel
theorem dX11_hoist_41 : decode cX11_hoist 41 = .ok (.invokevirtual 133, 3) := by decide +kernel
theorem dX11_hoist_44 : decode cX11_hoist 44 = .ok (.iload_n 2, 1) := by decide +kernel
theorem dX11_hoist_45 : decode cX11_hoist 45 = .ok (.aload_n 0, 1) := by decide +kernel
theorem dX11_hoist_46 : decode cX11_hoist 46 = .ok (.getfield 82, 3) := by decide +kernel
theorem dX11_hoist_49 : decode cX11_hoist 49 = .ok (.getfield 123, 3) := by decide +kernel
theorem dX11_hoist_52 : decode cX11_hoist 52 = .ok (.iload_n 1, 1) := by decide +kernel
theorem dX11_hoist_53 : decode cX11_hoist 53 = .ok (.iaload, 1) := by decide +kernel
theorem dX11_hoist_54 : decode cX11_hoist 54 = .ok (.iconst 4, 1) := by decide +kernel
theorem dX11_hoist_55 : decode cX11_hoist 55 = .ok (.idiv, 1) := by decide +kernel
theorem dX11_hoist_56 : decode cX11_hoist 56 = .ok (.iadd, 1) := by decide +kernel
theorem dX11_hoist_57 : decode cX11_hoist 57 = .ok (.istore_n 3, 1) := by decide +kernel
theorem dX11_hoist_58 : decode cX11_hoist 58 = .ok (.aload_n 0, 1) := by decide +kernel
theorem dX11_hoist_59 : decode cX11_hoist 59 = .ok (.getfield 82, 3) := by decide +kernel
theorem dX11_hoist_62 : decode cX11_hoist 62 = .ok (.getfield 127, 3) := by decide +kernel
theorem dX11_hoist_65 : decode cX11_hoist 65 = .ok (.iload_n 1, 1) := by decide +kernel
theorem dX11_hoist_66 : decode cX11_hoist 66 = .ok (.iaload, 1) := by decide +kernel
theorem dX11_hoist_67 : decode cX11_hoist 67 = .ok (.aload_n 0, 1) := by decide +kernel
theorem dX11_hoist_68 : decode cX11_hoist 68 = .ok (.getfield 26, 3) := by decide +kernel
theorem dX11_hoist_71 : decode cX11_hoist 71 = .ok (.getfield 137, 3) := by decide +kernel
theorem dX11_hoist_74 : decode cX11_hoist 74 = .ok (.iload_n 1, 1) := by decide +kernel
theorem dX11_hoist_75 : decode cX11_hoist 75 = .ok (.iaload, 1) := by decide +kernel
theorem dX11_hoist_76 : decode cX11_hoist 76 = .ok (.isub, 1) := by decide +kernel
theorem dX11_hoist_77 : decode cX11_hoist 77 = .ok (.iload_n 2, 1) := by decide +kernel
theorem dX11_hoist_78 : decode cX11_hoist 78 = .ok (.isub, 1) := by decide +kernel
theorem dX11_hoist_79 : decode cX11_hoist 79 = .ok (.istore 4, 2) := by decide +kernel
theorem dX11_hoist_81 : decode cX11_hoist 81 = .ok (.aload_n 0, 1) := by decide +kernel
theorem dX11_hoist_82 : decode cX11_hoist 82 = .ok (.iload_n 3, 1) := by decide +kernel
theorem dX11_hoist_83 : decode cX11_hoist 83 = .ok (.iload 4, 2) := by decide +kernel
theorem dX11_hoist_85 : decode cX11_hoist 85 = .ok (.invokevirtual 290, 3) := by decide +kernel
theorem dX11_hoist_88 : decode cX11_hoist 88 = .ok (.ireturn, 1) := by decide +kernel
theorem dX11_test_0 : decode cX11_test 0 = .ok (.aload_n 0, 1) := by decide +kernel
theorem dX11_test_1 : decode cX11_test 1 = .ok (.iload_n 1, 1) := by decide +kernel
theorem dX11_test_2 : decode cX11_test 2 = .ok (.invokevirtual 140, 3) := by decide +kernel
theorem dX11_test_5 : decode cX11_test 5 = .ok (.ifCond .eq 22, 3) := by decide +kernel
theorem dX11_test_8 : decode cX11_test 8 = .ok (.iload_n 2, 1) := by decide +kernel
theorem dX11_test_9 : decode cX11_test 9 = .ok (.iconst 1, 1) := by decide +kernel
theorem dX11_test_10 : decode cX11_test 10 = .ok (.bipush 60, 2) := by decide +kernel
theorem dX11_test_12 : decode cX11_test 12 = .ok (.invokestatic 93, 3) := by decide +kernel
theorem dX11_test_15 : decode cX11_test 15 = .ok (.ifCond .eq 12, 3) := by decide +kernel
theorem dX11_test_18 : decode cX11_test 18 = .ok (.iload_n 3, 1) := by decide +kernel
theorem dX11_test_19 : decode cX11_test 19 = .ok (.iconst 0, 1) := by decide +kernel
theorem dX11_test_20 : decode cX11_test 20 = .ok (.iconst 1, 1) := by decide +kernel
theorem dX11_test_21 : decode cX11_test 21 = .ok (.invokestatic 93, 3) := by decide +kernel
theorem dX11_test_24 : decode cX11_test 24 = .ok (.ifCond .ne 5, 3) := by decide +kernel
theorem dX11_test_27 : decode cX11_test 27 = .ok (.iconst (-1), 1) := by decide +kernel
theorem dX11_test_28 : decode cX11_test 28 = .ok (.ireturn, 1) := by decide +kernel
theorem dX11_test_29 : decode cX11_test 29 = .ok (.aload_n 0, 1) := by decide +kernel
theorem dX11_test_30 : decode cX11_test 30 = .ok (.getfield 47, 3) := by decide +kernel
theorem dX11_test_33 : decode cX11_test 33 = .ok (.iload_n 1, 1) := by decide +kernel
theorem dX11_test_34 : decode cX11_test 34 = .ok (.iload_n 2, 1) := by decide +kernel
theorem dX11_test_35 : decode cX11_test 35 = .ok (.iload_n 3, 1) := by decide +kernel
theorem dX11_test_36 : decode cX11_test 36 = .ok (.invokevirtual 294, 3) := by decide +kernel
theorem dX11_test_39 : decode cX11_test 39 = .ok (.ifCond .eq 13, 3) := by decide +kernel
theorem dX11_test_42 : decode cX11_test 42 = .ok (.aload_n 0, 1) := by decide +kernel
theorem dX11_test_43 : decode cX11_test 43 = .ok (.getfield 47, 3) := by decide +kernel
theorem dX11_test_46 : decode cX11_test 46 = .ok (.getfield 117, 3) := by decide +kernel
theorem dX11_test_49 : decode cX11_test 49 = .ok (.goto 5, 3) := by decide +kernel
theorem dX11_test_52 : decode cX11_test 52 = .ok (.bipush (-3), 2) := by decide +kernel
theorem dX11_test_54 : decode cX11_test 54 = .ok (.ireturn, 1) := by decide +kernel
theorem dX11_forget_0 : decode cX11_forget 0 = .ok (.aload_n 0, 1) := by decide +kernel
theorem dX11_forget_1 : decode cX11_forget 1 = .ok (.getfield 47, 3) := by decide +kernel
theorem dX11_forget_4 : decode cX11_forget 4 = .ok (.getfield 117, 3) := by decide +kernel
theorem dX11_forget_7 : decode cX11_forget 7 = .ok (.istore_n 1, 1) := by decide +kernel
theorem dX11_forget_8 : decode cX11_forget 8 = .ok (.aload_n 0, 1) := by decide +kernel
theorem dX11_forget_9 : decode cX11_forget 9 = .ok (.getfield 47, 3) := by decide +kernel
theorem dX11_forget_12 : decode cX11_forget 12 = .ok (.iconst 0, 1) := by decide +kernel
theorem dX11_forget_13 : decode cX11_forget 13 = .ok (.putfield 117, 3) := by decide +kernel
theorem dX11_forget_16 : decode cX11_forget 16 = .ok (.iload_n 1, 1) := by decide +kernel
theorem dX11_forget_17 : decode cX11_forget 17 = .ok (.ireturn, 1) := by decide +kernel
theorem dX11_mayBe_0 : decode cX11_mayBe 0 = .ok (.aload_n 0, 1) := by decide +kernel
theorem dX11_mayBe_1 : decode cX11_mayBe 1 = .ok (.getfield 47, 3) := by decide +kernel
theorem dX11_mayBe_4 : decode cX11_mayBe 4 = .ok (.aload_n 0, 1) := by decide +kernel
theorem dX11_mayBe_5 : decode cX11_mayBe 5 = .ok (.getfield 82, 3) := by decide +kernel
theorem dX11_mayBe_8 : decode cX11_mayBe 8 = .ok (.invokevirtual 297, 3) := by decide +kernel
theorem dX11_mayBe_11 : decode cX11_mayBe 11 = .ok (.ireturn, 1) := by decide +kernel
theorem dX11_ask_0 : decode cX11_ask 0 = .ok (.iload_n 1, 1) := by decide +kernel
theorem dX11_ask_1 : decode cX11_ask 1 = .ok (.iconst 0, 1) := by decide +kernel
theorem dX11_ask_2 : decode cX11_ask 2 = .ok (.iconst 1, 1) := by decide +kernel
theorem dX11_ask_3 : decode cX11_ask 3 = .ok (.invokestatic 93, 3) := by decide +kernel
theorem dX11_ask_6 : decode cX11_ask 6 = .ok (.ifCond .ne 5, 3) := by decide +kernel
theorem dX11_ask_9 : decode cX11_ask 9 = .ok (.iconst (-1), 1) := by decide +kernel
theorem dX11_ask_10 : decode cX11_ask 10 = .ok (.ireturn, 1) := by decide +kernel
theorem dX11_ask_11 : decode cX11_ask 11 = .ok (.aload_n 0, 1) := by decide +kernel
theorem dX11_ask_12 : decode cX11_ask 12 = .ok (.getfield 82, 3) := by decide +kernel
theorem dX11_ask_15 : decode cX11_ask 15 = .ok (.getfield 283, 3) := by decide +kernel
theorem dX11_ask_18 : decode cX11_ask 18 = .ok (.ifCond .ne 6, 3) := by decide +kernel
theorem dX11_ask_21 : decode cX11_ask 21 = .ok (.bipush (-9), 2) := by decide +kernel
theorem dX11_ask_23 : decode cX11_ask 23 = .ok (.ireturn, 1) := by decide +kernel
theorem dX11_ask_24 : decode cX11_ask 24 = .ok (.aload_n 0, 1) := by decide +kernel
theorem dX11_ask_25 : decode cX11_ask 25 = .ok (.getfield 47, 3) := by decide +kernel
theorem dX11_ask_28 : decode cX11_ask 28 = .ok (.aload_n 0, 1) := by decide +kernel
theorem dX11_ask_29 : decode cX11_ask 29 = .ok (.getfield 82, 3) := by decide +kernel
theorem dX11_ask_32 : decode cX11_ask 32 = .ok (.invokevirtual 300, 3) := by decide +kernel
theorem dX11_ask_35 : decode cX11_ask 35 = .ok (.iload_n 1, 1) := by decide +kernel
theorem dX11_ask_36 : decode cX11_ask 36 = .ok (.ifCond .ne 13, 3) := by decide +kernel
theorem dX11_ask_39 : decode cX11_ask 39 = .ok (.aload_n 0, 1) := by decide +kernel
theorem dX11_ask_40 : decode cX11_ask 40 = .ok (.getfield 47, 3) := by decide +kernel
theorem dX11_ask_43 : decode cX11_ask 43 = .ok (.getfield 303, 3) := by decide +kernel
theorem dX11_ask_46 : decode cX11_ask 46 = .ok (.goto 10, 3) := by decide +kernel
theorem dX11_ask_49 : decode cX11_ask 49 = .ok (.aload_n 0, 1) := by decide +kernel
theorem dX11_ask_50 : decode cX11_ask 50 = .ok (.getfield 47, 3) := by decide +kernel
theorem dX11_ask_53 : decode cX11_ask 53 = .ok (.getfield 306, 3) := by decide +kernel
theorem dX11_ask_56 : decode cX11_ask 56 = .ok (.ireturn, 1) := by decide +kernel
theorem dX11_rate_0 : decode cX11_rate 0 = .ok (.aload_n 0, 1) := by decide +kernel
theorem dX11_rate_1 : decode cX11_rate 1 = .ok (.iload_n 2, 1) := by decide +kernel
theorem dX11_rate_2 : decode cX11_rate 2 = .ok (.invokevirtual 166, 3) := by decide +kernel
theorem dX11_rate_5 : decode cX11_rate 5 = .ok (.ifCond .ne 7, 3) := by decide +kernel
theorem dX11_rate_8 : decode cX11_rate 8 = .ok (.ldc_w 309, 3) := by decide +kernel
theorem dX11_rate_11 : decode cX11_rate 11 = .ok (.ireturn, 1) := by decide +kernel
theorem dX11_rate_12 : decode cX11_rate 12 = .ok (.iload_n 1, 1) := by decide +kernel
theorem dX11_rate_13 : decode cX11_rate 13 = .ok (.tableswitch 75 0 5 #[39, 45, 51, 57, 63, 69], 39) := by decide +kernel
theorem dX11_rate_52 : decode cX11_rate 52 = .ok (.aload_n 0, 1) := by decide +kernel
theorem dX11_rate_53 : decode cX11_rate 53 = .ok (.iload_n 2, 1) := by decide +kernel
theorem dX11_rate_54 : decode cX11_rate 54 = .ok (.invokevirtual 310, 3) := by decide +kernel
theorem dX11_rate_57 : decode cX11_rate 57 = .ok (.ireturn, 1) := by decide +kernel
theorem dX11_rate_58 : decode cX11_rate 58 = .ok (.aload_n 0, 1) := by decide +kernel
theorem dX11_rate_59 : decode cX11_rate 59 = .ok (.iload_n 2, 1) := by decide +kernel
theorem dX11_rate_60 : decode cX11_rate 60 = .ok (.invokevirtual 313, 3) := by decide +kernel
theorem dX11_rate_63 : decode cX11_rate 63 = .ok (.ireturn, 1) := by decide +kernel
theorem dX11_rate_64 : decode cX11_rate 64 = .ok (.aload_n 0, 1) := by decide +kernel
theorem dX11_rate_65 : decode cX11_rate 65 = .ok (.iload_n 2, 1) := by decide +kernel
theorem dX11_rate_66 : decode cX11_rate 66 = .ok (.invokevirtual 316, 3) := by decide +kernel
theorem dX11_rate_69 : decode cX11_rate 69 = .ok (.ireturn, 1) := by decide +kernel
theorem dX11_rate_70 : decode cX11_rate 70 = .ok (.aload_n 0, 1) := by decide +kernel
theorem dX11_rate_71 : decode cX11_rate 71 = .ok (.iload_n 2, 1) := by decide +kernel
theorem dX11_rate_72 : decode cX11_rate 72 = .ok (.invokevirtual 319, 3) := by decide +kernel
theorem dX11_rate_75 : decode cX11_rate 75 = .ok (.ireturn, 1) := by decide +kernel
theorem dX11_rate_76 : decode cX11_rate 76 = .ok (.aload_n 0, 1) := by decide +kernel
theorem dX11_rate_77 : decode cX11_rate 77 = .ok (.iload_n 2, 1) := by decide +kernel
theorem dX11_rate_78 : decode cX11_rate 78 = .ok (.invokevirtual 322, 3) := by decide +kernel
theorem dX11_rate_81 : decode cX11_rate 81 = .ok (.ireturn, 1) := by decide +kernel
theorem dX11_rate_82 : decode cX11_rate 82 = .ok (.aload_n 0, 1) := by decide +kernel
theorem dX11_rate_83 : decode cX11_rate 83 = .ok (.iload_n 2, 1) := by decide +kernel
theorem dX11_rate_84 : decode cX11_rate 84 = .ok (.invokevirtual 325, 3) := by decide +kernel
theorem dX11_rate_87 : decode cX11_rate 87 = .ok (.ireturn, 1) := by decide +kernel
theorem dX11_rate_88 : decode cX11_rate 88 = .ok (.ldc_w 309, 3) := by decide +kernel
theorem dX11_rate_91 : decode cX11_rate 91 = .ok (.ireturn, 1) := by decide +kernel
theorem dX11_keep_0 : decode cX11_keep 0 = .ok (.iload_n 1, 1) := by decide +kernel
theorem dX11_keep_1 : decode cX11_keep 1 = .ok (.iconst 0, 1) := by decide +kernel
theorem dX11_keep_2 : decode cX11_keep 2 = .ok (.iconst 1, 1) := by decide +kernel
theorem dX11_keep_3 : decode cX11_keep 3 = .ok (.invokestatic 93, 3) := by decide +kernel
theorem dX11_keep_6 : decode cX11_keep 6 = .ok (.ifCond .ne 5, 3) := by decide +kernel
theorem dX11_keep_9 : decode cX11_keep 9 = .ok (.iconst (-1), 1) := by decide +kernel
theorem dX11_keep_10 : decode cX11_keep 10 = .ok (.ireturn, 1) := by decide +kernel
theorem dX11_keep_11 : decode cX11_keep 11 = .ok (.aload_n 0, 1) := by decide +kernel
theorem dX11_keep_12 : decode cX11_keep 12 = .ok (.getfield 40, 3) := by decide +kernel
theorem dX11_keep_15 : decode cX11_keep 15 = .ok (.iload_n 1, 1) := by decide +kernel
theorem dX11_keep_16 : decode cX11_keep 16 = .ok (.aload_n 0, 1) := by decide +kernel
theorem dX11_keep_17 : decode cX11_keep 17 = .ok (.getfield 19, 3) := by decide +kernel
theorem dX11_keep_20 : decode cX11_keep 20 = .ok (.invokevirtual 328, 3) := by decide +kernel
theorem dX11_keep_23 : decode cX11_keep 23 = .ok (.aload_n 0, 1) := by decide +kernel
theorem dX11_keep_24 : decode cX11_keep 24 = .ok (.getfield 19, 3) := by decide +kernel
theorem dX11_keep_27 : decode cX11_keep 27 = .ok (.invokevirtual 192, 3) := by decide +kernel
theorem dX11_keep_30 : decode cX11_keep 30 = .ok (.ireturn, 1) := by decide +kernel
theorem dX11_back_0 : decode cX11_back 0 = .ok (.iload_n 1, 1) := by decide +kernel
theorem dX11_back_1 : decode cX11_back 1 = .ok (.iconst 0, 1) := by decide +kernel
theorem dX11_back_2 : decode cX11_back 2 = .ok (.iconst 1, 1) := by decide +kernel
theorem dX11_back_3 : decode cX11_back 3 = .ok (.invokestatic 93, 3) := by decide +kernel
theorem dX11_back_6 : decode cX11_back 6 = .ok (.ifCond .ne 5, 3) := by decide +kernel
theorem dX11_back_9 : decode cX11_back 9 = .ok (.iconst (-1), 1) := by decide +kernel
theorem dX11_back_10 : decode cX11_back 10 = .ok (.ireturn, 1) := by decide +kernel
theorem dX11_back_11 : decode cX11_back 11 = .ok (.aload_n 0, 1) := by decide +kernel
theorem dX11_back_12 : decode cX11_back 12 = .ok (.getfield 40, 3) := by decide +kernel
theorem dX11_back_15 : decode cX11_back 15 = .ok (.iload_n 1, 1) := by decide +kernel
theorem dX11_back_16 : decode cX11_back 16 = .ok (.aload_n 0, 1) := by decide +kernel
theorem dX11_back_17 : decode cX11_back 17 = .ok (.getfield 19, 3) := by decide +kernel
theorem dX11_back_20 : decode cX11_back 20 = .ok (.invokevirtual 332, 3) := by decide +kernel
theorem dX11_back_23 : decode cX11_back 23 = .ok (.ifCond .ne 6, 3) := by decide +kernel
theorem dX11_back_26 : decode cX11_back 26 = .ok (.bipush (-2), 2) := by decide +kernel
theorem dX11_back_28 : decode cX11_back 28 = .ok (.ireturn, 1) := by decide +kernel
theorem dX11_back_29 : decode cX11_back 29 = .ok (.aload_n 0, 1) := by decide +kernel
theorem dX11_back_30 : decode cX11_back 30 = .ok (.getfield 33, 3) := by decide +kernel
theorem dX11_back_33 : decode cX11_back 33 = .ok (.invokevirtual 113, 3) := by decide +kernel
theorem dX11_back_36 : decode cX11_back 36 = .ok (.aload_n 0, 1) := by decide +kernel
theorem dX11_back_37 : decode cX11_back 37 = .ok (.getfield 19, 3) := by decide +kernel
theorem dX11_back_40 : decode cX11_back 40 = .ok (.invokevirtual 192, 3) := by decide +kernel
theorem dX11_back_43 : decode cX11_back 43 = .ok (.ireturn, 1) := by decide +kernel
theorem dX11_count_0 : decode cX11_count 0 = .ok (.iload_n 1, 1) := by decide +kernel
theorem dX11_count_1 : decode cX11_count 1 = .ok (.tableswitch 91 0 5 #[39, 47, 55, 63, 71, 83], 39) := by decide +kernel
theorem dX11_count_40 : decode cX11_count 40 = .ok (.aload_n 0, 1) := by decide +kernel
theorem dX11_count_41 : decode cX11_count 41 = .ok (.getfield 82, 3) := by decide +kernel
theorem dX11_count_44 : decode cX11_count 44 = .ok (.getfield 120, 3) := by decide +kernel
theorem dX11_count_47 : decode cX11_count 47 = .ok (.ireturn, 1) := by decide +kernel
theorem dX11_count_48 : decode cX11_count 48 = .ok (.aload_n 0, 1) := by decide +kernel
theorem dX11_count_49 : decode cX11_count 49 = .ok (.getfield 82, 3) := by decide +kernel
theorem dX11_count_52 : decode cX11_count 52 = .ok (.getfield 283, 3) := by decide +kernel
theorem dX11_count_55 : decode cX11_count 55 = .ok (.ireturn, 1) := by decide +kernel
theorem dX11_count_56 : decode cX11_count 56 = .ok (.aload_n 0, 1) := by decide +kernel
theorem dX11_count_57 : decode cX11_count 57 = .ok (.getfield 82, 3) := by decide +kernel
theorem dX11_count_60 : decode cX11_count 60 = .ok (.getfield 336, 3) := by decide +kernel
theorem dX11_count_63 : decode cX11_count 63 = .ok (.ireturn, 1) := by decide +kernel
theorem dX11_count_64 : decode cX11_count 64 = .ok (.aload_n 0, 1) := by decide +kernel
theorem dX11_count_65 : decode cX11_count 65 = .ok (.getfield 47, 3) := by decide +kernel
theorem dX11_count_68 : decode cX11_count 68 = .ok (.getfield 117, 3) := by decide +kernel
theorem dX11_count_71 : decode cX11_count 71 = .ok (.ireturn, 1) := by decide +kernel
theorem dX11_count_72 : decode cX11_count 72 = .ok (.aload_n 0, 1) := by decide +kernel
theorem dX11_count_73 : decode cX11_count 73 = .ok (.getfield 19, 3) := by decide +kernel
theorem dX11_count_76 : decode cX11_count 76 = .ok (.aload_n 0, 1) := by decide +kernel
theorem dX11_count_77 : decode cX11_count 77 = .ok (.getfield 82, 3) := by decide +kernel
theorem dX11_count_80 : decode cX11_count 80 = .ok (.invokevirtual 214, 3) := by decide +kernel
theorem dX11_count_83 : decode cX11_count 83 = .ok (.ireturn, 1) := by decide +kernel
theorem dX11_count_84 : decode cX11_count 84 = .ok (.aload_n 0, 1) := by decide +kernel
theorem dX11_count_85 : decode cX11_count 85 = .ok (.getfield 10, 3) := by decide +kernel
theorem dX11_count_88 : decode cX11_count 88 = .ok (.getfield 101, 3) := by decide +kernel
theorem dX11_count_91 : decode cX11_count 91 = .ok (.ireturn, 1) := by decide +kernel
theorem dX11_count_92 : decode cX11_count 92 = .ok (.iconst (-1), 1) := by decide +kernel
theorem dX11_count_93 : decode cX11_count 93 = .ok (.ireturn, 1) := by decide +kernel
theorem dX11_trace_0 : decode cX11_trace 0 = .ok (.aload_n 0, 1) := by decide +kernel
theorem dX11_trace_1 : decode cX11_trace 1 = .ok (.getfield 89, 3) := by decide +kernel
theorem dX11_trace_4 : decode cX11_trace 4 = .ok (.lreturn, 1) := by decide +kernel
theorem dX11_within_0 : decode cX11_within 0 = .ok (.iload_n 0, 1) := by decide +kernel
theorem dX11_within_1 : decode cX11_within 1 = .ok (.iload_n 1, 1) := by decide +kernel
theorem dX11_within_2 : decode cX11_within 2 = .ok (.if_icmp .lt 12, 3) := by decide +kernel
theorem dX11_within_5 : decode cX11_within 5 = .ok (.iload_n 0, 1) := by decide +kernel
theorem dX11_within_6 : decode cX11_within 6 = .ok (.iload_n 2, 1) := by decide +kernel
theorem dX11_within_7 : decode cX11_within 7 = .ok (.if_icmp .gt 7, 3) := by decide +kernel
theorem dX11_within_10 : decode cX11_within 10 = .ok (.iconst 1, 1) := by decide +kernel
theorem dX11_within_11 : decode cX11_within 11 = .ok (.goto 4, 3) := by decide +kernel
theorem dX11_within_14 : decode cX11_within 14 = .ok (.iconst 0, 1) := by decide +kernel
theorem dX11_within_15 : decode cX11_within 15 = .ok (.ireturn, 1) := by decide +kernel
theorem dX11_isForce_0 : decode cX11_isForce 0 = .ok (.iload_n 0, 1) := by decide +kernel
theorem dX11_isForce_1 : decode cX11_isForce 1 = .ok (.iconst 1, 1) := by decide +kernel
theorem dX11_isForce_2 : decode cX11_isForce 2 = .ok (.bipush 9, 2) := by decide +kernel
theorem dX11_isForce_4 : decode cX11_isForce 4 = .ok (.invokestatic 93, 3) := by decide +kernel
theorem dX11_isForce_7 : decode cX11_isForce 7 = .ok (.ireturn, 1) := by decide +kernel
theorem dX11_isPlank_0 : decode cX11_isPlank 0 = .ok (.iload_n 1, 1) := by decide +kernel
theorem dX11_isPlank_1 : decode cX11_isPlank 1 = .ok (.iconst 0, 1) := by decide +kernel
theorem dX11_isPlank_2 : decode cX11_isPlank 2 = .ok (.aload_n 0, 1) := by decide +kernel
theorem dX11_isPlank_3 : decode cX11_isPlank 3 = .ok (.getfield 82, 3) := by decide +kernel
theorem dX11_isPlank_6 : decode cX11_isPlank 6 = .ok (.getfield 283, 3) := by decide +kernel
theorem dX11_isPlank_9 : decode cX11_isPlank 9 = .ok (.iconst 1, 1) := by decide +kernel
theorem dX11_isPlank_10 : decode cX11_isPlank 10 = .ok (.isub, 1) := by decide +kernel
theorem dX11_isPlank_11 : decode cX11_isPlank 11 = .ok (.invokestatic 93, 3) := by decide +kernel
theorem dX11_isPlank_14 : decode cX11_isPlank 14 = .ok (.ireturn, 1) := by decide +kernel
theorem dX11_isEnd_0 : decode cX11_isEnd 0 = .ok (.aload_n 0, 1) := by decide +kernel
theorem dX11_isEnd_1 : decode cX11_isEnd 1 = .ok (.iload_n 1, 1) := by decide +kernel
theorem dX11_isEnd_2 : decode cX11_isEnd 2 = .ok (.invokevirtual 140, 3) := by decide +kernel
theorem dX11_isEnd_5 : decode cX11_isEnd 5 = .ok (.ifCond .eq 16, 3) := by decide +kernel
theorem dX11_isEnd_8 : decode cX11_isEnd 8 = .ok (.iload_n 2, 1) := by decide +kernel
theorem dX11_isEnd_9 : decode cX11_isEnd 9 = .ok (.iconst 0, 1) := by decide +kernel
theorem dX11_isEnd_10 : decode cX11_isEnd 10 = .ok (.iconst 1, 1) := by decide +kernel
theorem dX11_isEnd_11 : decode cX11_isEnd 11 = .ok (.invokestatic 93, 3) := by decide +kernel
theorem dX11_isEnd_14 : decode cX11_isEnd 14 = .ok (.ifCond .eq 7, 3) := by decide +kernel
theorem dX11_isEnd_17 : decode cX11_isEnd 17 = .ok (.iconst 1, 1) := by decide +kernel
theorem dX11_isEnd_18 : decode cX11_isEnd 18 = .ok (.goto 4, 3) := by decide +kernel
theorem dX11_isEnd_21 : decode cX11_isEnd 21 = .ok (.iconst 0, 1) := by decide +kernel
theorem dX11_isEnd_22 : decode cX11_isEnd 22 = .ok (.ireturn, 1) := by decide +kernel
theorem dX11_isChild_0 : decode cX11_isChild 0 = .ok (.iload_n 1, 1) := by decide +kernel
theorem dX11_isChild_1 : decode cX11_isChild 1 = .ok (.iconst 0, 1) := by decide +kernel
theorem dX11_isChild_2 : decode cX11_isChild 2 = .ok (.aload_n 0, 1) := by decide +kernel
theorem dX11_isChild_3 : decode cX11_isChild 3 = .ok (.getfield 82, 3) := by decide +kernel
theorem dX11_isChild_6 : decode cX11_isChild 6 = .ok (.getfield 336, 3) := by decide +kernel
theorem dX11_isChild_9 : decode cX11_isChild 9 = .ok (.iconst 1, 1) := by decide +kernel
theorem dX11_isChild_10 : decode cX11_isChild 10 = .ok (.isub, 1) := by decide +kernel
theorem dX11_isChild_11 : decode cX11_isChild 11 = .ok (.invokestatic 93, 3) := by decide +kernel
theorem dX11_isChild_14 : decode cX11_isChild 14 = .ok (.ireturn, 1) := by decide +kernel
theorem dX11_fewestPulling_0 : decode cX11_fewestPulling 0 = .ok (.bipush (-9), 2) := by decide +kernel
theorem dX11_fewestPulling_2 : decode cX11_fewestPulling 2 = .ok (.istore_n 3, 1) := by decide +kernel
theorem dX11_fewestPulling_3 : decode cX11_fewestPulling 3 = .ok (.bipush 6, 2) := by decide +kernel
theorem dX11_fewestPulling_5 : decode cX11_fewestPulling 5 = .ok (.istore 4, 2) := by decide +kernel
theorem dX11_fewestPulling_7 : decode cX11_fewestPulling 7 = .ok (.iconst 1, 1) := by decide +kernel
theorem dX11_fewestPulling_8 : decode cX11_fewestPulling 8 = .ok (.istore 5, 2) := by decide +kernel
theorem dX11_fewestPulling_10 : decode cX11_fewestPulling 10 = .ok (.iload 5, 2) := by decide +kernel
theorem dX11_fewestPulling_12 : decode cX11_fewestPulling 12 = .ok (.iconst 1, 1) := by decide +kernel
theorem dX11_fewestPulling_13 : decode cX11_fewestPulling 13 = .ok (.aload_n 0, 1) := by decide +kernel
theorem dX11_fewestPulling_14 : decode cX11_fewestPulling 14 = .ok (.getfield 82, 3) := by decide +kernel
theorem dX11_fewestPulling_17 : decode cX11_fewestPulling 17 = .ok (.getfield 336, 3) := by decide +kernel
theorem dX11_fewestPulling_20 : decode cX11_fewestPulling 20 = .ok (.ishl, 1) := by decide +kernel
theorem dX11_fewestPulling_21 : decode cX11_fewestPulling 21 = .ok (.if_icmp .ge 50, 3) := by decide +kernel
theorem dX11_fewestPulling_24 : decode cX11_fewestPulling 24 = .ok (.aload_n 0, 1) := by decide +kernel
theorem dX11_fewestPulling_25 : decode cX11_fewestPulling 25 = .ok (.getfield 82, 3) := by decide +kernel
theorem dX11_fewestPulling_28 : decode cX11_fewestPulling 28 = .ok (.iload 5, 2) := by decide +kernel
theorem dX11_fewestPulling_30 : decode cX11_fewestPulling 30 = .ok (.invokevirtual 339, 3) := by decide +kernel
theorem dX11_fewestPulling_33 : decode cX11_fewestPulling 33 = .ok (.istore 6, 2) := by decide +kernel
theorem dX11_fewestPulling_35 : decode cX11_fewestPulling 35 = .ok (.iload 6, 2) := by decide +kernel
theorem dX11_fewestPulling_37 : decode cX11_fewestPulling 37 = .ok (.iload_n 1, 1) := by decide +kernel
theorem dX11_fewestPulling_38 : decode cX11_fewestPulling 38 = .ok (.iload_n 2, 1) := by decide +kernel
theorem dX11_fewestPulling_39 : decode cX11_fewestPulling 39 = .ok (.invokestatic 93, 3) := by decide +kernel
theorem dX11_fewestPulling_42 : decode cX11_fewestPulling 42 = .ok (.ifCond .eq 23, 3) := by decide +kernel
theorem dX11_fewestPulling_45 : decode cX11_fewestPulling 45 = .ok (.iload 5, 2) := by decide +kernel
theorem dX11_fewestPulling_47 : decode cX11_fewestPulling 47 = .ok (.invokestatic 342, 3) := by decide +kernel
theorem dX11_fewestPulling_50 : decode cX11_fewestPulling 50 = .ok (.iload 4, 2) := by decide +kernel
theorem dX11_fewestPulling_52 : decode cX11_fewestPulling 52 = .ok (.if_icmp .ge 13, 3) := by decide +kernel
theorem dX11_fewestPulling_55 : decode cX11_fewestPulling 55 = .ok (.iload 5, 2) := by decide +kernel
theorem dX11_fewestPulling_57 : decode cX11_fewestPulling 57 = .ok (.invokestatic 342, 3) := by decide +kernel
theorem dX11_fewestPulling_60 : decode cX11_fewestPulling 60 = .ok (.istore 4, 2) := by decide +kernel
theorem dX11_fewestPulling_62 : decode cX11_fewestPulling 62 = .ok (.iload 5, 2) := by decide +kernel
theorem dX11_fewestPulling_64 : decode cX11_fewestPulling 64 = .ok (.istore_n 3, 1) := by decide +kernel
theorem dX11_fewestPulling_65 : decode cX11_fewestPulling 65 = .ok (.iinc 5 1, 3) := by decide +kernel
theorem dX11_fewestPulling_68 : decode cX11_fewestPulling 68 = .ok (.goto (-58), 3) := by decide +kernel
theorem dX11_fewestPulling_71 : decode cX11_fewestPulling 71 = .ok (.iload_n 3, 1) := by decide +kernel
theorem dX11_fewestPulling_72 : decode cX11_fewestPulling 72 = .ok (.ireturn, 1) := by decide +kernel
theorem dX11_rateChild_0 : decode cX11_rateChild 0 = .ok (.aload_n 0, 1) := by decide +kernel
theorem dX11_rateChild_1 : decode cX11_rateChild 1 = .ok (.dup, 1) := by decide +kernel
theorem dX11_rateChild_2 : decode cX11_rateChild 2 = .ok (.getfield 89, 3) := by decide +kernel
theorem dX11_rateChild_5 : decode cX11_rateChild 5 = .ok (.lconst 1, 1) := by decide +kernel
theorem dX11_rateChild_6 : decode cX11_rateChild 6 = .ok (.ladd, 1) := by decide +kernel
theorem dX11_rateChild_7 : decode cX11_rateChild 7 = .ok (.putfield 89, 3) := by decide +kernel
theorem dX11_rateChild_10 : decode cX11_rateChild 10 = .ok (.aload_n 0, 1) := by decide +kernel
theorem dX11_rateChild_11 : decode cX11_rateChild 11 = .ok (.getfield 82, 3) := by decide +kernel
theorem dX11_rateChild_14 : decode cX11_rateChild 14 = .ok (.getfield 169, 3) := by decide +kernel
theorem dX11_rateChild_17 : decode cX11_rateChild 17 = .ok (.iload_n 1, 1) := by decide +kernel
theorem dX11_rateChild_18 : decode cX11_rateChild 18 = .ok (.iaload, 1) := by decide +kernel
theorem dX11_rateChild_19 : decode cX11_rateChild 19 = .ok (.ireturn, 1) := by decide +kernel
theorem dX11_rateClimber_0 : decode cX11_rateClimber 0 = .ok (.aload_n 0, 1) := by decide +kernel
theorem dX11_rateClimber_1 : decode cX11_rateClimber 1 = .ok (.dup, 1) := by decide +kernel
theorem dX11_rateClimber_2 : decode cX11_rateClimber 2 = .ok (.getfield 89, 3) := by decide +kernel
theorem dX11_rateClimber_5 : decode cX11_rateClimber 5 = .ok (.ldc2_w 347, 3) := by decide +kernel
theorem dX11_rateClimber_8 : decode cX11_rateClimber 8 = .ok (.ladd, 1) := by decide +kernel
theorem dX11_rateClimber_9 : decode cX11_rateClimber 9 = .ok (.putfield 89, 3) := by decide +kernel
theorem dX11_rateClimber_12 : decode cX11_rateClimber 12 = .ok (.aload_n 0, 1) := by decide +kernel
theorem dX11_rateClimber_13 : decode cX11_rateClimber 13 = .ok (.getfield 19, 3) := by decide +kernel
theorem dX11_rateClimber_16 : decode cX11_rateClimber 16 = .ok (.iload_n 1, 1) := by decide +kernel
theorem dX11_rateClimber_17 : decode cX11_rateClimber 17 = .ok (.invokevirtual 175, 3) := by decide +kernel
theorem dX11_rateClimber_20 : decode cX11_rateClimber 20 = .ok (.istore_n 2, 1) := by decide +kernel
theorem dX11_rateClimber_21 : decode cX11_rateClimber 21 = .ok (.aload_n 0, 1) := by decide +kernel
theorem dX11_rateClimber_22 : decode cX11_rateClimber 22 = .ok (.iload_n 2, 1) := by decide +kernel
theorem dX11_rateClimber_23 : decode cX11_rateClimber 23 = .ok (.invokevirtual 140, 3) := by decide +kernel
theorem dX11_rateClimber_26 : decode cX11_rateClimber 26 = .ok (.ifCond .eq 25, 3) := by decide +kernel
theorem dX11_rateClimber_29 : decode cX11_rateClimber 29 = .ok (.aload_n 0, 1) := by decide +kernel
theorem dX11_rateClimber_30 : decode cX11_rateClimber 30 = .ok (.getfield 82, 3) := by decide +kernel
theorem dX11_rateClimber_33 : decode cX11_rateClimber 33 = .ok (.getfield 123, 3) := by decide +kernel
theorem dX11_rateClimber_36 : decode cX11_rateClimber 36 = .ok (.aload_n 0, 1) := by decide +kernel
theorem dX11_rateClimber_37 : decode cX11_rateClimber 37 = .ok (.getfield 82, 3) := by decide +kernel
theorem dX11_rateClimber_40 : decode cX11_rateClimber 40 = .ok (.getfield 143, 3) := by decide +kernel
theorem dX11_rateClimber_43 : decode cX11_rateClimber 43 = .ok (.iconst 2, 1) := by decide +kernel
theorem dX11_rateClimber_44 : decode cX11_rateClimber 44 = .ok (.iload_n 2, 1) := by decide +kernel
theorem dX11_rateClimber_45 : decode cX11_rateClimber 45 = .ok (.imul, 1) := by decide +kernel
theorem dX11_rateClimber_46 : decode cX11_rateClimber 46 = .ok (.iaload, 1) := by decide +kernel
theorem dX11_rateClimber_47 : decode cX11_rateClimber 47 = .ok (.iaload, 1) := by decide +kernel
theorem dX11_rateClimber_48 : decode cX11_rateClimber 48 = .ok (.goto 4, 3) := by decide +kernel
theorem dX11_rateClimber_51 : decode cX11_rateClimber 51 = .ok (.iconst 0, 1) := by decide +kernel
theorem dX11_rateClimber_52 : decode cX11_rateClimber 52 = .ok (.istore_n 3, 1) := by decide +kernel
theorem dX11_rateClimber_53 : decode cX11_rateClimber 53 = .ok (.aload_n 0, 1) := by decide +kernel
theorem dX11_rateClimber_54 : decode cX11_rateClimber 54 = .ok (.iload_n 1, 1) := by decide +kernel
theorem dX11_rateClimber_55 : decode cX11_rateClimber 55 = .ok (.invokevirtual 310, 3) := by decide +kernel
theorem dX11_rateClimber_58 : decode cX11_rateClimber 58 = .ok (.iload_n 3, 1) := by decide +kernel
theorem dX11_rateClimber_59 : decode cX11_rateClimber 59 = .ok (.iadd, 1) := by decide +kernel
theorem dX11_rateClimber_60 : decode cX11_rateClimber 60 = .ok (.ireturn, 1) := by decide +kernel
theorem dX11_rateGuest_0 : decode cX11_rateGuest 0 = .ok (.aload_n 0, 1) := by decide +kernel
theorem dX11_rateGuest_1 : decode cX11_rateGuest 1 = .ok (.dup, 1) := by decide +kernel
theorem dX11_rateGuest_2 : decode cX11_rateGuest 2 = .ok (.getfield 89, 3) := by decide +kernel
theorem dX11_rateGuest_5 : decode cX11_rateGuest 5 = .ok (.ldc2_w 349, 3) := by decide +kernel
theorem dX11_rateGuest_8 : decode cX11_rateGuest 8 = .ok (.ladd, 1) := by decide +kernel
theorem dX11_rateGuest_9 : decode cX11_rateGuest 9 = .ok (.putfield 89, 3) := by decide +kernel
theorem dX11_rateGuest_12 : decode cX11_rateGuest 12 = .ok (.aload_n 0, 1) := by decide +kernel
theorem dX11_rateGuest_13 : decode cX11_rateGuest 13 = .ok (.iload_n 1, 1) := by decide +kernel
theorem dX11_rateGuest_14 : decode cX11_rateGuest 14 = .ok (.invokevirtual 310, 3) := by decide +kernel
theorem dX11_rateGuest_17 : decode cX11_rateGuest 17 = .ok (.aload_n 0, 1) := by decide +kernel
theorem dX11_rateGuest_18 : decode cX11_rateGuest 18 = .ok (.getfield 82, 3) := by decide +kernel
theorem dX11_rateGuest_21 : decode cX11_rateGuest 21 = .ok (.getfield 172, 3) := by decide +kernel
theorem dX11_rateGuest_24 : decode cX11_rateGuest 24 = .ok (.iload_n 1, 1) := by decide +kernel
theorem dX11_rateGuest_25 : decode cX11_rateGuest 25 = .ok (.iaload, 1) := by decide +kernel
theorem dX11_rateGuest_26 : decode cX11_rateGuest 26 = .ok (.isub, 1) := by decide +kernel
theorem dX11_rateGuest_27 : decode cX11_rateGuest 27 = .ok (.ireturn, 1) := by decide +kernel
theorem dX11_rateCaptain_0 : decode cX11_rateCaptain 0 = .ok (.aload_n 0, 1) := by decide +kernel
theorem dX11_rateCaptain_1 : decode cX11_rateCaptain 1 = .ok (.dup, 1) := by decide +kernel
theorem dX11_rateCaptain_2 : decode cX11_rateCaptain 2 = .ok (.getfield 89, 3) := by decide +kernel
theorem dX11_rateCaptain_5 : decode cX11_rateCaptain 5 = .ok (.ldc2_w 351, 3) := by decide +kernel
theorem dX11_rateCaptain_8 : decode cX11_rateCaptain 8 = .ok (.ladd, 1) := by decide +kernel
theorem dX11_rateCaptain_9 : decode cX11_rateCaptain 9 = .ok (.putfield 89, 3) := by decide +kernel
theorem dX11_rateCaptain_12 : decode cX11_rateCaptain 12 = .ok (.iconst 2, 1) := by decide +kernel
theorem dX11_rateCaptain_13 : decode cX11_rateCaptain 13 = .ok (.aload_n 0, 1) := by decide +kernel
theorem dX11_rateCaptain_14 : decode cX11_rateCaptain 14 = .ok (.iload_n 1, 1) := by decide +kernel
theorem dX11_rateCaptain_15 : decode cX11_rateCaptain 15 = .ok (.invokevirtual 313, 3) := by decide +kernel
theorem dX11_rateCaptain_18 : decode cX11_rateCaptain 18 = .ok (.imul, 1) := by decide +kernel
theorem dX11_rateCaptain_19 : decode cX11_rateCaptain 19 = .ok (.ireturn, 1) := by decide +kernel
theorem dX11_rateNeighbour_0 : decode cX11_rateNeighbour 0 = .ok (.aload_n 0, 1) := by decide +kernel
theorem dX11_rateNeighbour_1 : decode cX11_rateNeighbour 1 = .ok (.dup, 1) := by decide +kernel
theorem dX11_rateNeighbour_2 : decode cX11_rateNeighbour 2 = .ok (.getfield 89, 3) := by decide +kernel
theorem dX11_rateNeighbour_5 : decode cX11_rateNeighbour 5 = .ok (.ldc2_w 353, 3) := by decide +kernel
theorem dX11_rateNeighbour_8 : decode cX11_rateNeighbour 8 = .ok (.ladd, 1) := by decide +kernel
theorem dX11_rateNeighbour_9 : decode cX11_rateNeighbour 9 = .ok (.putfield 89, 3) := by decide +kernel
theorem dX11_rateNeighbour_12 : decode cX11_rateNeighbour 12 = .ok (.aload_n 0, 1) := by decide +kernel
theorem dX11_rateNeighbour_13 : decode cX11_rateNeighbour 13 = .ok (.iload_n 1, 1) := by decide +kernel
theorem dX11_rateNeighbour_14 : decode cX11_rateNeighbour 14 = .ok (.invokevirtual 316, 3) := by decide +kernel
theorem dX11_rateNeighbour_17 : decode cX11_rateNeighbour 17 = .ok (.iload_n 1, 1) := by decide +kernel
theorem dX11_rateNeighbour_18 : decode cX11_rateNeighbour 18 = .ok (.iadd, 1) := by decide +kernel
theorem dX11_rateNeighbour_19 : decode cX11_rateNeighbour 19 = .ok (.ireturn, 1) := by decide +kernel
theorem dX11_rateSister_0 : decode cX11_rateSister 0 = .ok (.aload_n 0, 1) := by decide +kernel
theorem dX11_rateSister_1 : decode cX11_rateSister 1 = .ok (.dup, 1) := by decide +kernel
theorem dX11_rateSister_2 : decode cX11_rateSister 2 = .ok (.getfield 89, 3) := by decide +kernel
theorem dX11_rateSister_5 : decode cX11_rateSister 5 = .ok (.ldc2_w 355, 3) := by decide +kernel
theorem dX11_rateSister_8 : decode cX11_rateSister 8 = .ok (.ladd, 1) := by decide +kernel
theorem dX11_rateSister_9 : decode cX11_rateSister 9 = .ok (.putfield 89, 3) := by decide +kernel
theorem dX11_rateSister_12 : decode cX11_rateSister 12 = .ok (.aload_n 0, 1) := by decide +kernel
theorem dX11_rateSister_13 : decode cX11_rateSister 13 = .ok (.iload_n 1, 1) := by decide +kernel
theorem dX11_rateSister_14 : decode cX11_rateSister 14 = .ok (.invokevirtual 310, 3) := by decide +kernel
theorem dX11_rateSister_17 : decode cX11_rateSister 17 = .ok (.aload_n 0, 1) := by decide +kernel
theorem dX11_rateSister_18 : decode cX11_rateSister 18 = .ok (.getfield 19, 3) := by decide +kernel
theorem dX11_rateSister_21 : decode cX11_rateSister 21 = .ok (.aload_n 0, 1) := by decide +kernel
theorem dX11_rateSister_22 : decode cX11_rateSister 22 = .ok (.getfield 82, 3) := by decide +kernel
theorem dX11_rateSister_25 : decode cX11_rateSister 25 = .ok (.invokevirtual 214, 3) := by decide +kernel
theorem dX11_rateSister_28 : decode cX11_rateSister 28 = .ok (.iadd, 1) := by decide +kernel
theorem dX11_rateSister_29 : decode cX11_rateSister 29 = .ok (.ireturn, 1) := by decide +kernel
theorem dX11_growth_0 : decode cX11_growth 0 = .ok (.iload_n 0, 1) := by decide +kernel
theorem dX11_growth_1 : decode cX11_growth 1 = .ok (.tableswitch 43 1 3 #[27, 31, 37], 27) := by decide +kernel
theorem dX11_growth_28 : decode cX11_growth 28 = .ok (.iload_n 1, 1) := by decide +kernel
theorem dX11_growth_29 : decode cX11_growth 29 = .ok (.iload_n 2, 1) := by decide +kernel
theorem dX11_growth_30 : decode cX11_growth 30 = .ok (.imul, 1) := by decide +kernel
theorem dX11_growth_31 : decode cX11_growth 31 = .ok (.ireturn, 1) := by decide +kernel
theorem dX11_growth_32 : decode cX11_growth 32 = .ok (.iload_n 1, 1) := by decide +kernel
theorem dX11_growth_33 : decode cX11_growth 33 = .ok (.iload_n 2, 1) := by decide +kernel
theorem dX11_growth_34 : decode cX11_growth 34 = .ok (.imul, 1) := by decide +kernel
theorem dX11_growth_35 : decode cX11_growth 35 = .ok (.iconst 2, 1) := by decide +kernel
theorem dX11_growth_36 : decode cX11_growth 36 = .ok (.idiv, 1) := by decide +kernel
theorem dX11_growth_37 : decode cX11_growth 37 = .ok (.ireturn, 1) := by decide +kernel
theorem dX11_growth_38 : decode cX11_growth 38 = .ok (.iload_n 1, 1) := by decide +kernel
theorem dX11_growth_39 : decode cX11_growth 39 = .ok (.iload_n 2, 1) := by decide +kernel
theorem dX11_growth_40 : decode cX11_growth 40 = .ok (.imul, 1) := by decide +kernel
theorem dX11_growth_41 : decode cX11_growth 41 = .ok (.iconst 3, 1) := by decide +kernel
theorem dX11_growth_42 : decode cX11_growth 42 = .ok (.idiv, 1) := by decide +kernel
theorem dX11_growth_43 : decode cX11_growth 43 = .ok (.ireturn, 1) := by decide +kernel
theorem dX11_growth_44 : decode cX11_growth 44 = .ok (.iconst 0, 1) := by decide +kernel
theorem dX11_growth_45 : decode cX11_growth 45 = .ok (.ireturn, 1) := by decide +kernel
theorem dX11_givesAt_0 : decode cX11_givesAt 0 = .ok (.iload_n 0, 1) := by decide +kernel
theorem dX11_givesAt_1 : decode cX11_givesAt 1 = .ok (.tableswitch 36 1 3 #[27, 30, 33], 27) := by decide +kernel
theorem dX11_givesAt_28 : decode cX11_givesAt 28 = .ok (.bipush 12, 2) := by decide +kernel
theorem dX11_givesAt_30 : decode cX11_givesAt 30 = .ok (.ireturn, 1) := by decide +kernel
theorem dX11_givesAt_31 : decode cX11_givesAt 31 = .ok (.bipush 20, 2) := by decide +kernel
theorem dX11_givesAt_33 : decode cX11_givesAt 33 = .ok (.ireturn, 1) := by decide +kernel
theorem dX11_givesAt_34 : decode cX11_givesAt 34 = .ok (.bipush 36, 2) := by decide +kernel
theorem dX11_givesAt_36 : decode cX11_givesAt 36 = .ok (.ireturn, 1) := by decide +kernel
theorem dX11_givesAt_37 : decode cX11_givesAt 37 = .ok (.ldc_w 357, 3) := by decide +kernel
theorem dX11_givesAt_40 : decode cX11_givesAt 40 = .ok (.ireturn, 1) := by decide +kernel
theorem dX12_init_0 : decode cX12_init 0 = .ok (.aload_n 0, 1) := by decide +kernel
theorem dX12_init_1 : decode cX12_init 1 = .ok (.invokespecial 1, 3) := by decide +kernel
theorem dX12_init_4 : decode cX12_init 4 = .ok (.aload_n 0, 1) := by decide +kernel
theorem dX12_init_5 : decode cX12_init 5 = .ok (.bipush 24, 2) := by decide +kernel
theorem dX12_init_7 : decode cX12_init 7 = .ok (.newarray .int, 2) := by decide +kernel
theorem dX12_init_9 : decode cX12_init 9 = .ok (.putfield 7, 3) := by decide +kernel
theorem dX12_init_12 : decode cX12_init 12 = .ok (.aload_n 0, 1) := by decide +kernel
theorem dX12_init_13 : decode cX12_init 13 = .ok (.bipush 18, 2) := by decide +kernel
theorem dX12_init_15 : decode cX12_init 15 = .ok (.newarray .int, 2) := by decide +kernel
theorem dX12_init_17 : decode cX12_init 17 = .ok (.putfield 13, 3) := by decide +kernel
theorem dX12_init_20 : decode cX12_init 20 = .ok (.aload_n 0, 1) := by decide +kernel
theorem dX12_init_21 : decode cX12_init 21 = .ok (.bipush 10, 2) := by decide +kernel
theorem dX12_init_23 : decode cX12_init 23 = .ok (.newarray .int, 2) := by decide +kernel
theorem dX12_init_25 : decode cX12_init 25 = .ok (.putfield 16, 3) := by decide +kernel
theorem dX12_init_28 : decode cX12_init 28 = .ok (.aload_n 0, 1) := by decide +kernel
theorem dX12_init_29 : decode cX12_init 29 = .ok (.bipush 42, 2) := by decide +kernel
theorem dX12_init_31 : decode cX12_init 31 = .ok (.newarray .int, 2) := by decide +kernel
theorem dX12_init_33 : decode cX12_init 33 = .ok (.putfield 19, 3) := by decide +kernel
theorem dX12_init_36 : decode cX12_init 36 = .ok (.aload_n 0, 1) := by decide +kernel
theorem dX12_init_37 : decode cX12_init 37 = .ok (.sipush 420, 3) := by decide +kernel
theorem dX12_init_40 : decode cX12_init 40 = .ok (.newarray .int, 2) := by decide +kernel
theorem dX12_init_42 : decode cX12_init 42 = .ok (.putfield 22, 3) := by decide +kernel
theorem dX12_init_45 : decode cX12_init 45 = .ok (.aload_n 0, 1) := by decide +kernel
theorem dX12_init_46 : decode cX12_init 46 = .ok (.bipush 84, 2) := by decide +kernel
theorem dX12_init_48 : decode cX12_init 48 = .ok (.newarray .int, 2) := by decide +kernel
theorem dX12_init_50 : decode cX12_init 50 = .ok (.putfield 25, 3) := by decide +kernel
theorem dX12_init_53 : decode cX12_init 53 = .ok (.aload_n 0, 1) := by decide +kernel
theorem dX12_init_54 : decode cX12_init 54 = .ok (.iconst 2, 1) := by decide +kernel
theorem dX12_init_55 : decode cX12_init 55 = .ok (.newarray .boolean, 2) := by decide +kernel
theorem dX12_init_57 : decode cX12_init 57 = .ok (.putfield 28, 3) := by decide +kernel
theorem dX12_init_60 : decode cX12_init 60 = .ok (.aload_n 0, 1) := by decide +kernel
theorem dX12_init_61 : decode cX12_init 61 = .ok (.bipush 18, 2) := by decide +kernel
theorem dX12_init_63 : decode cX12_init 63 = .ok (.newarray .int, 2) := by decide +kernel
theorem dX12_init_65 : decode cX12_init 65 = .ok (.putfield 32, 3) := by decide +kernel
theorem dX12_init_68 : decode cX12_init 68 = .ok (.aload_n 0, 1) := by decide +kernel
theorem dX12_init_69 : decode cX12_init 69 = .ok (.sipush 200, 3) := by decide +kernel
theorem dX12_init_72 : decode cX12_init 72 = .ok (.newarray .int, 2) := by decide +kernel
theorem dX12_init_74 : decode cX12_init 74 = .ok (.putfield 35, 3) := by decide +kernel
theorem dX12_init_77 : decode cX12_init 77 = .ok (.aload_n 0, 1) := by decide +kernel
theorem dX12_init_78 : decode cX12_init 78 = .ok (.bipush 24, 2) := by decide +kernel
theorem dX12_init_80 : decode cX12_init 80 = .ok (.newarray .int, 2) := by decide +kernel
theorem dX12_init_82 : decode cX12_init 82 = .ok (.putfield 38, 3) := by decide +kernel
theorem dX12_init_85 : decode cX12_init 85 = .ok (.aload_n 0, 1) := by decide +kernel
theorem dX12_init_86 : decode cX12_init 86 = .ok (.bipush 30, 2) := by decide +kernel
theorem dX12_init_88 : decode cX12_init 88 = .ok (.newarray .int, 2) := by decide +kernel
theorem dX12_init_90 : decode cX12_init 90 = .ok (.putfield 41, 3) := by decide +kernel
theorem dX12_init_93 : decode cX12_init 93 = .ok (.aload_n 0, 1) := by decide +kernel
theorem dX12_init_94 : decode cX12_init 94 = .ok (.bipush 10, 2) := by decide +kernel
theorem dX12_init_96 : decode cX12_init 96 = .ok (.newarray .int, 2) := by decide +kernel
theorem dX12_init_98 : decode cX12_init 98 = .ok (.putfield 44, 3) := by decide +kernel
theorem dX12_init_101 : decode cX12_init 101 = .ok (.aload_n 0, 1) := by decide +kernel
theorem dX12_init_102 : decode cX12_init 102 = .ok (.iconst 5, 1) := by decide +kernel
theorem dX12_init_103 : decode cX12_init 103 = .ok (.newarray .int, 2) := by decide +kernel
theorem dX12_init_105 : decode cX12_init 105 = .ok (.putfield 47, 3) := by decide +kernel
theorem dX12_init_108 : decode cX12_init 108 = .ok (.aload_n 0, 1) := by decide +kernel
theorem dX12_init_109 : decode cX12_init 109 = .ok (.bipush 6, 2) := by decide +kernel
theorem dX12_init_111 : decode cX12_init 111 = .ok (.newarray .int, 2) := by decide +kernel
theorem dX12_init_113 : decode cX12_init 113 = .ok (.putfield 50, 3) := by decide +kernel
theorem dX12_init_116 : decode cX12_init 116 = .ok (.aload_n 0, 1) := by decide +kernel
theorem dX12_init_117 : decode cX12_init 117 = .ok (.bipush 8, 2) := by decide +kernel
theorem dX12_init_119 : decode cX12_init 119 = .ok (.newarray .int, 2) := by decide +kernel
theorem dX12_init_121 : decode cX12_init 121 = .ok (.putfield 53, 3) := by decide +kernel
theorem dX12_init_124 : decode cX12_init 124 = .ok (.aload_n 0, 1) := by decide +kernel
theorem dX12_init_125 : decode cX12_init 125 = .ok (.bipush 36, 2) := by decide +kernel
