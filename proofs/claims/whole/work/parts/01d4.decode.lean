theorem dX12_bestRow_72 : decode cX12_bestRow 72 = .ok (.iload 5, 2) := by decide +kernel
theorem dX12_bestRow_74 : decode cX12_bestRow 74 = .ok (.istore_n 3, 1) := by decide +kernel
theorem dX12_bestRow_75 : decode cX12_bestRow 75 = .ok (.iload 6, 2) := by decide +kernel
theorem dX12_bestRow_77 : decode cX12_bestRow 77 = .ok (.istore 4, 2) := by decide +kernel
theorem dX12_bestRow_79 : decode cX12_bestRow 79 = .ok (.iinc 5 1, 3) := by decide +kernel
theorem dX12_bestRow_82 : decode cX12_bestRow 82 = .ok (.goto (-43), 3) := by decide +kernel
theorem dX12_bestRow_85 : decode cX12_bestRow 85 = .ok (.iload_n 3, 1) := by decide +kernel
theorem dX12_bestRow_86 : decode cX12_bestRow 86 = .ok (.ireturn, 1) := by decide +kernel
theorem dX12_tells_0 : decode cX12_tells 0 = .ok (.iload_n 1, 1) := by decide +kernel
theorem dX12_tells_1 : decode cX12_tells 1 = .ok (.bipush (-9), 2) := by decide +kernel
theorem dX12_tells_3 : decode cX12_tells 3 = .ok (.if_icmp .eq 13, 3) := by decide +kernel
theorem dX12_tells_6 : decode cX12_tells 6 = .ok (.aload_n 0, 1) := by decide +kernel
theorem dX12_tells_7 : decode cX12_tells 7 = .ok (.iload_n 1, 1) := by decide +kernel
theorem dX12_tells_8 : decode cX12_tells 8 = .ok (.invokevirtual 192, 3) := by decide +kernel
theorem dX12_tells_11 : decode cX12_tells 11 = .ok (.ifCond .ne 5, 3) := by decide +kernel
theorem dX12_tells_14 : decode cX12_tells 14 = .ok (.iconst (-1), 1) := by decide +kernel
theorem dX12_tells_15 : decode cX12_tells 15 = .ok (.ireturn, 1) := by decide +kernel
theorem dX12_tells_16 : decode cX12_tells 16 = .ok (.aload_n 0, 1) := by decide +kernel
theorem dX12_tells_17 : decode cX12_tells 17 = .ok (.aload_n 0, 1) := by decide +kernel
theorem dX12_tells_18 : decode cX12_tells 18 = .ok (.iload_n 2, 1) := by decide +kernel
theorem dX12_tells_19 : decode cX12_tells 19 = .ok (.invokevirtual 230, 3) := by decide +kernel
theorem dX12_tells_22 : decode cX12_tells 22 = .ok (.invokevirtual 222, 3) := by decide +kernel
theorem dX12_tells_25 : decode cX12_tells 25 = .ok (.iload_n 1, 1) := by decide +kernel
theorem dX12_tells_26 : decode cX12_tells 26 = .ok (.bipush (-9), 2) := by decide +kernel
theorem dX12_tells_28 : decode cX12_tells 28 = .ok (.if_icmp .ne 19, 3) := by decide +kernel
theorem dX12_tells_31 : decode cX12_tells 31 = .ok (.iload_n 2, 1) := by decide +kernel
theorem dX12_tells_32 : decode cX12_tells 32 = .ok (.ifCond .eq 10, 3) := by decide +kernel
theorem dX12_tells_35 : decode cX12_tells 35 = .ok (.aload_n 0, 1) := by decide +kernel
theorem dX12_tells_36 : decode cX12_tells 36 = .ok (.invokevirtual 216, 3) := by decide +kernel
theorem dX12_tells_39 : decode cX12_tells 39 = .ok (.goto 7, 3) := by decide +kernel
theorem dX12_tells_42 : decode cX12_tells 42 = .ok (.aload_n 0, 1) := by decide +kernel
theorem dX12_tells_43 : decode cX12_tells 43 = .ok (.invokevirtual 219, 3) := by decide +kernel
theorem dX12_tells_46 : decode cX12_tells 46 = .ok (.ireturn, 1) := by decide +kernel
theorem dX12_tells_47 : decode cX12_tells 47 = .ok (.aload_n 0, 1) := by decide +kernel
theorem dX12_tells_48 : decode cX12_tells 48 = .ok (.getfield 47, 3) := by decide +kernel
theorem dX12_tells_51 : decode cX12_tells 51 = .ok (.iload_n 1, 1) := by decide +kernel
theorem dX12_tells_52 : decode cX12_tells 52 = .ok (.iaload, 1) := by decide +kernel
theorem dX12_tells_53 : decode cX12_tells 53 = .ok (.bipush (-9), 2) := by decide +kernel
theorem dX12_tells_55 : decode cX12_tells 55 = .ok (.if_icmp .ne 8, 3) := by decide +kernel
theorem dX12_tells_58 : decode cX12_tells 58 = .ok (.bipush (-5), 2) := by decide +kernel
theorem dX12_tells_60 : decode cX12_tells 60 = .ok (.goto 9, 3) := by decide +kernel
theorem dX12_tells_63 : decode cX12_tells 63 = .ok (.aload_n 0, 1) := by decide +kernel
theorem dX12_tells_64 : decode cX12_tells 64 = .ok (.getfield 47, 3) := by decide +kernel
theorem dX12_tells_67 : decode cX12_tells 67 = .ok (.iload_n 1, 1) := by decide +kernel
theorem dX12_tells_68 : decode cX12_tells 68 = .ok (.iaload, 1) := by decide +kernel
theorem dX12_tells_69 : decode cX12_tells 69 = .ok (.ireturn, 1) := by decide +kernel
theorem dX12_most_0 : decode cX12_most 0 = .ok (.aload_n 0, 1) := by decide +kernel
theorem dX12_most_1 : decode cX12_most 1 = .ok (.iload_n 1, 1) := by decide +kernel
theorem dX12_most_2 : decode cX12_most 2 = .ok (.iconst 0, 1) := by decide +kernel
theorem dX12_most_3 : decode cX12_most 3 = .ok (.invokevirtual 233, 3) := by decide +kernel
theorem dX12_most_6 : decode cX12_most 6 = .ok (.ireturn, 1) := by decide +kernel
theorem dX12_richest_0 : decode cX12_richest 0 = .ok (.aload_n 0, 1) := by decide +kernel
theorem dX12_richest_1 : decode cX12_richest 1 = .ok (.iload_n 1, 1) := by decide +kernel
theorem dX12_richest_2 : decode cX12_richest 2 = .ok (.iconst 1, 1) := by decide +kernel
theorem dX12_richest_3 : decode cX12_richest 3 = .ok (.invokevirtual 233, 3) := by decide +kernel
theorem dX12_richest_6 : decode cX12_richest 6 = .ok (.ireturn, 1) := by decide +kernel
theorem dX12_firstNew_0 : decode cX12_firstNew 0 = .ok (.bipush (-9), 2) := by decide +kernel
theorem dX12_firstNew_2 : decode cX12_firstNew 2 = .ok (.istore_n 1, 1) := by decide +kernel
theorem dX12_firstNew_3 : decode cX12_firstNew 3 = .ok (.iconst 2, 1) := by decide +kernel
theorem dX12_firstNew_4 : decode cX12_firstNew 4 = .ok (.aload_n 0, 1) := by decide +kernel
theorem dX12_firstNew_5 : decode cX12_firstNew 5 = .ok (.getfield 77, 3) := by decide +kernel
theorem dX12_firstNew_8 : decode cX12_firstNew 8 = .ok (.imul, 1) := by decide +kernel
theorem dX12_firstNew_9 : decode cX12_firstNew 9 = .ok (.iconst 1, 1) := by decide +kernel
theorem dX12_firstNew_10 : decode cX12_firstNew 10 = .ok (.isub, 1) := by decide +kernel
theorem dX12_firstNew_11 : decode cX12_firstNew 11 = .ok (.istore_n 2, 1) := by decide +kernel
theorem dX12_firstNew_12 : decode cX12_firstNew 12 = .ok (.iload_n 2, 1) := by decide +kernel
theorem dX12_firstNew_13 : decode cX12_firstNew 13 = .ok (.ifCond .lt 41, 3) := by decide +kernel
theorem dX12_firstNew_16 : decode cX12_firstNew 16 = .ok (.aload_n 0, 1) := by decide +kernel
theorem dX12_firstNew_17 : decode cX12_firstNew 17 = .ok (.getfield 56, 3) := by decide +kernel
theorem dX12_firstNew_20 : decode cX12_firstNew 20 = .ok (.iconst 3, 1) := by decide +kernel
theorem dX12_firstNew_21 : decode cX12_firstNew 21 = .ok (.iload_n 2, 1) := by decide +kernel
theorem dX12_firstNew_22 : decode cX12_firstNew 22 = .ok (.imul, 1) := by decide +kernel
theorem dX12_firstNew_23 : decode cX12_firstNew 23 = .ok (.iconst 2, 1) := by decide +kernel
theorem dX12_firstNew_24 : decode cX12_firstNew 24 = .ok (.iadd, 1) := by decide +kernel
theorem dX12_firstNew_25 : decode cX12_firstNew 25 = .ok (.iaload, 1) := by decide +kernel
theorem dX12_firstNew_26 : decode cX12_firstNew 26 = .ok (.aload_n 0, 1) := by decide +kernel
theorem dX12_firstNew_27 : decode cX12_firstNew 27 = .ok (.getfield 19, 3) := by decide +kernel
theorem dX12_firstNew_30 : decode cX12_firstNew 30 = .ok (.bipush 6, 2) := by decide +kernel
theorem dX12_firstNew_32 : decode cX12_firstNew 32 = .ok (.iconst 3, 1) := by decide +kernel
theorem dX12_firstNew_33 : decode cX12_firstNew 33 = .ok (.iload_n 2, 1) := by decide +kernel
theorem dX12_firstNew_34 : decode cX12_firstNew 34 = .ok (.imul, 1) := by decide +kernel
theorem dX12_firstNew_35 : decode cX12_firstNew 35 = .ok (.iadd, 1) := by decide +kernel
theorem dX12_firstNew_36 : decode cX12_firstNew 36 = .ok (.iconst 2, 1) := by decide +kernel
theorem dX12_firstNew_37 : decode cX12_firstNew 37 = .ok (.iadd, 1) := by decide +kernel
theorem dX12_firstNew_38 : decode cX12_firstNew 38 = .ok (.iaload, 1) := by decide +kernel
theorem dX12_firstNew_39 : decode cX12_firstNew 39 = .ok (.if_icmp .le 7, 3) := by decide +kernel
theorem dX12_firstNew_42 : decode cX12_firstNew 42 = .ok (.iload_n 2, 1) := by decide +kernel
theorem dX12_firstNew_43 : decode cX12_firstNew 43 = .ok (.goto 4, 3) := by decide +kernel
theorem dX12_firstNew_46 : decode cX12_firstNew 46 = .ok (.iload_n 1, 1) := by decide +kernel
theorem dX12_firstNew_47 : decode cX12_firstNew 47 = .ok (.istore_n 1, 1) := by decide +kernel
theorem dX12_firstNew_48 : decode cX12_firstNew 48 = .ok (.iinc 2 (-1), 3) := by decide +kernel
theorem dX12_firstNew_51 : decode cX12_firstNew 51 = .ok (.goto (-39), 3) := by decide +kernel
theorem dX12_firstNew_54 : decode cX12_firstNew 54 = .ok (.iload_n 1, 1) := by decide +kernel
theorem dX12_firstNew_55 : decode cX12_firstNew 55 = .ok (.ireturn, 1) := by decide +kernel
theorem dX12_firstOut_0 : decode cX12_firstOut 0 = .ok (.iload_n 1, 1) := by decide +kernel
theorem dX12_firstOut_1 : decode cX12_firstOut 1 = .ok (.invokestatic 205, 3) := by decide +kernel
theorem dX12_firstOut_4 : decode cX12_firstOut 4 = .ok (.ifCond .eq 12, 3) := by decide +kernel
theorem dX12_firstOut_7 : decode cX12_firstOut 7 = .ok (.iload_n 2, 1) := by decide +kernel
theorem dX12_firstOut_8 : decode cX12_firstOut 8 = .ok (.iconst 0, 1) := by decide +kernel
theorem dX12_firstOut_9 : decode cX12_firstOut 9 = .ok (.iconst 1, 1) := by decide +kernel
theorem dX12_firstOut_10 : decode cX12_firstOut 10 = .ok (.invokestatic 73, 3) := by decide +kernel
theorem dX12_firstOut_13 : decode cX12_firstOut 13 = .ok (.ifCond .ne 5, 3) := by decide +kernel
theorem dX12_firstOut_16 : decode cX12_firstOut 16 = .ok (.iconst (-1), 1) := by decide +kernel
theorem dX12_firstOut_17 : decode cX12_firstOut 17 = .ok (.ireturn, 1) := by decide +kernel
theorem dX12_firstOut_18 : decode cX12_firstOut 18 = .ok (.aload_n 0, 1) := by decide +kernel
theorem dX12_firstOut_19 : decode cX12_firstOut 19 = .ok (.invokevirtual 195, 3) := by decide +kernel
theorem dX12_firstOut_22 : decode cX12_firstOut 22 = .ok (.iconst 1, 1) := by decide +kernel
theorem dX12_firstOut_23 : decode cX12_firstOut 23 = .ok (.istore_n 3, 1) := by decide +kernel
theorem dX12_firstOut_24 : decode cX12_firstOut 24 = .ok (.iload_n 3, 1) := by decide +kernel
theorem dX12_firstOut_25 : decode cX12_firstOut 25 = .ok (.bipush 60, 2) := by decide +kernel
theorem dX12_firstOut_27 : decode cX12_firstOut 27 = .ok (.if_icmp .gt 41, 3) := by decide +kernel
theorem dX12_firstOut_30 : decode cX12_firstOut 30 = .ok (.aload_n 0, 1) := by decide +kernel
theorem dX12_firstOut_31 : decode cX12_firstOut 31 = .ok (.aload_n 0, 1) := by decide +kernel
theorem dX12_firstOut_32 : decode cX12_firstOut 32 = .ok (.getfield 56, 3) := by decide +kernel
theorem dX12_firstOut_35 : decode cX12_firstOut 35 = .ok (.iconst 0, 1) := by decide +kernel
theorem dX12_firstOut_36 : decode cX12_firstOut 36 = .ok (.iload_n 1, 1) := by decide +kernel
theorem dX12_firstOut_37 : decode cX12_firstOut 37 = .ok (.invokevirtual 208, 3) := by decide +kernel
theorem dX12_firstOut_40 : decode cX12_firstOut 40 = .ok (.aload_n 0, 1) := by decide +kernel
theorem dX12_firstOut_41 : decode cX12_firstOut 41 = .ok (.invokevirtual 237, 3) := by decide +kernel
theorem dX12_firstOut_44 : decode cX12_firstOut 44 = .ok (.bipush (-9), 2) := by decide +kernel
theorem dX12_firstOut_46 : decode cX12_firstOut 46 = .ok (.if_icmp .eq 16, 3) := by decide +kernel
theorem dX12_firstOut_49 : decode cX12_firstOut 49 = .ok (.iload_n 2, 1) := by decide +kernel
theorem dX12_firstOut_50 : decode cX12_firstOut 50 = .ok (.ifCond .ne 7, 3) := by decide +kernel
theorem dX12_firstOut_53 : decode cX12_firstOut 53 = .ok (.iload_n 3, 1) := by decide +kernel
theorem dX12_firstOut_54 : decode cX12_firstOut 54 = .ok (.goto 7, 3) := by decide +kernel
theorem dX12_firstOut_57 : decode cX12_firstOut 57 = .ok (.aload_n 0, 1) := by decide +kernel
theorem dX12_firstOut_58 : decode cX12_firstOut 58 = .ok (.invokevirtual 237, 3) := by decide +kernel
theorem dX12_firstOut_61 : decode cX12_firstOut 61 = .ok (.ireturn, 1) := by decide +kernel
theorem dX12_firstOut_62 : decode cX12_firstOut 62 = .ok (.iinc 3 1, 3) := by decide +kernel
theorem dX12_firstOut_65 : decode cX12_firstOut 65 = .ok (.goto (-41), 3) := by decide +kernel
theorem dX12_firstOut_68 : decode cX12_firstOut 68 = .ok (.bipush (-9), 2) := by decide +kernel
theorem dX12_firstOut_70 : decode cX12_firstOut 70 = .ok (.ireturn, 1) := by decide +kernel
theorem dX12_holdsFor_0 : decode cX12_holdsFor 0 = .ok (.iload_n 1, 1) := by decide +kernel
theorem dX12_holdsFor_1 : decode cX12_holdsFor 1 = .ok (.invokestatic 205, 3) := by decide +kernel
theorem dX12_holdsFor_4 : decode cX12_holdsFor 4 = .ok (.ifCond .ne 5, 3) := by decide +kernel
theorem dX12_holdsFor_7 : decode cX12_holdsFor 7 = .ok (.iconst (-1), 1) := by decide +kernel
theorem dX12_holdsFor_8 : decode cX12_holdsFor 8 = .ok (.ireturn, 1) := by decide +kernel
theorem dX12_holdsFor_9 : decode cX12_holdsFor 9 = .ok (.aload_n 0, 1) := by decide +kernel
theorem dX12_holdsFor_10 : decode cX12_holdsFor 10 = .ok (.invokevirtual 182, 3) := by decide +kernel
theorem dX12_holdsFor_13 : decode cX12_holdsFor 13 = .ok (.aload_n 0, 1) := by decide +kernel
theorem dX12_holdsFor_14 : decode cX12_holdsFor 14 = .ok (.invokevirtual 195, 3) := by decide +kernel
theorem dX12_holdsFor_17 : decode cX12_holdsFor 17 = .ok (.iconst 0, 1) := by decide +kernel
theorem dX12_holdsFor_18 : decode cX12_holdsFor 18 = .ok (.istore_n 2, 1) := by decide +kernel
theorem dX12_holdsFor_19 : decode cX12_holdsFor 19 = .ok (.iload_n 2, 1) := by decide +kernel
theorem dX12_holdsFor_20 : decode cX12_holdsFor 20 = .ok (.bipush 60, 2) := by decide +kernel
theorem dX12_holdsFor_22 : decode cX12_holdsFor 22 = .ok (.if_icmp .gt 28, 3) := by decide +kernel
theorem dX12_holdsFor_25 : decode cX12_holdsFor 25 = .ok (.aload_n 0, 1) := by decide +kernel
theorem dX12_holdsFor_26 : decode cX12_holdsFor 26 = .ok (.invokevirtual 198, 3) := by decide +kernel
theorem dX12_holdsFor_29 : decode cX12_holdsFor 29 = .ok (.ifCond .ne 5, 3) := by decide +kernel
theorem dX12_holdsFor_32 : decode cX12_holdsFor 32 = .ok (.iload_n 2, 1) := by decide +kernel
theorem dX12_holdsFor_33 : decode cX12_holdsFor 33 = .ok (.ireturn, 1) := by decide +kernel
theorem dX12_holdsFor_34 : decode cX12_holdsFor 34 = .ok (.aload_n 0, 1) := by decide +kernel
theorem dX12_holdsFor_35 : decode cX12_holdsFor 35 = .ok (.aload_n 0, 1) := by decide +kernel
theorem dX12_holdsFor_36 : decode cX12_holdsFor 36 = .ok (.getfield 56, 3) := by decide +kernel
theorem dX12_holdsFor_39 : decode cX12_holdsFor 39 = .ok (.iconst 0, 1) := by decide +kernel
theorem dX12_holdsFor_40 : decode cX12_holdsFor 40 = .ok (.iload_n 1, 1) := by decide +kernel
theorem dX12_holdsFor_41 : decode cX12_holdsFor 41 = .ok (.invokevirtual 208, 3) := by decide +kernel
theorem dX12_holdsFor_44 : decode cX12_holdsFor 44 = .ok (.iinc 2 1, 3) := by decide +kernel
theorem dX12_holdsFor_47 : decode cX12_holdsFor 47 = .ok (.goto (-28), 3) := by decide +kernel
theorem dX12_holdsFor_50 : decode cX12_holdsFor 50 = .ok (.bipush (-9), 2) := by decide +kernel
theorem dX12_holdsFor_52 : decode cX12_holdsFor 52 = .ok (.ireturn, 1) := by decide +kernel
theorem dX12_outSet_0 : decode cX12_outSet 0 = .ok (.iconst 0, 1) := by decide +kernel
theorem dX12_outSet_1 : decode cX12_outSet 1 = .ok (.istore_n 1, 1) := by decide +kernel
theorem dX12_outSet_2 : decode cX12_outSet 2 = .ok (.iconst 0, 1) := by decide +kernel
theorem dX12_outSet_3 : decode cX12_outSet 3 = .ok (.istore_n 2, 1) := by decide +kernel
theorem dX12_outSet_4 : decode cX12_outSet 4 = .ok (.iload_n 2, 1) := by decide +kernel
theorem dX12_outSet_5 : decode cX12_outSet 5 = .ok (.iconst 2, 1) := by decide +kernel
theorem dX12_outSet_6 : decode cX12_outSet 6 = .ok (.aload_n 0, 1) := by decide +kernel
theorem dX12_outSet_7 : decode cX12_outSet 7 = .ok (.getfield 77, 3) := by decide +kernel
theorem dX12_outSet_10 : decode cX12_outSet 10 = .ok (.imul, 1) := by decide +kernel
theorem dX12_outSet_11 : decode cX12_outSet 11 = .ok (.if_icmp .ge 45, 3) := by decide +kernel
theorem dX12_outSet_14 : decode cX12_outSet 14 = .ok (.iload_n 1, 1) := by decide +kernel
theorem dX12_outSet_15 : decode cX12_outSet 15 = .ok (.aload_n 0, 1) := by decide +kernel
theorem dX12_outSet_16 : decode cX12_outSet 16 = .ok (.getfield 56, 3) := by decide +kernel
theorem dX12_outSet_19 : decode cX12_outSet 19 = .ok (.iconst 3, 1) := by decide +kernel
theorem dX12_outSet_20 : decode cX12_outSet 20 = .ok (.iload_n 2, 1) := by decide +kernel
theorem dX12_outSet_21 : decode cX12_outSet 21 = .ok (.imul, 1) := by decide +kernel
theorem dX12_outSet_22 : decode cX12_outSet 22 = .ok (.iconst 2, 1) := by decide +kernel
theorem dX12_outSet_23 : decode cX12_outSet 23 = .ok (.iadd, 1) := by decide +kernel
theorem dX12_outSet_24 : decode cX12_outSet 24 = .ok (.iaload, 1) := by decide +kernel
theorem dX12_outSet_25 : decode cX12_outSet 25 = .ok (.aload_n 0, 1) := by decide +kernel
theorem dX12_outSet_26 : decode cX12_outSet 26 = .ok (.getfield 19, 3) := by decide +kernel
theorem dX12_outSet_29 : decode cX12_outSet 29 = .ok (.bipush 6, 2) := by decide +kernel
theorem dX12_outSet_31 : decode cX12_outSet 31 = .ok (.iconst 3, 1) := by decide +kernel
theorem dX12_outSet_32 : decode cX12_outSet 32 = .ok (.iload_n 2, 1) := by decide +kernel
theorem dX12_outSet_33 : decode cX12_outSet 33 = .ok (.imul, 1) := by decide +kernel
theorem dX12_outSet_34 : decode cX12_outSet 34 = .ok (.iadd, 1) := by decide +kernel
theorem dX12_outSet_35 : decode cX12_outSet 35 = .ok (.iconst 2, 1) := by decide +kernel
theorem dX12_outSet_36 : decode cX12_outSet 36 = .ok (.iadd, 1) := by decide +kernel
theorem dX12_outSet_37 : decode cX12_outSet 37 = .ok (.iaload, 1) := by decide +kernel
theorem dX12_outSet_38 : decode cX12_outSet 38 = .ok (.if_icmp .le 9, 3) := by decide +kernel
theorem dX12_outSet_41 : decode cX12_outSet 41 = .ok (.iconst 1, 1) := by decide +kernel
theorem dX12_outSet_42 : decode cX12_outSet 42 = .ok (.iload_n 2, 1) := by decide +kernel
theorem dX12_outSet_43 : decode cX12_outSet 43 = .ok (.ishl, 1) := by decide +kernel
theorem dX12_outSet_44 : decode cX12_outSet 44 = .ok (.goto 4, 3) := by decide +kernel
theorem dX12_outSet_47 : decode cX12_outSet 47 = .ok (.iconst 0, 1) := by decide +kernel
theorem dX12_outSet_48 : decode cX12_outSet 48 = .ok (.ior, 1) := by decide +kernel
theorem dX12_outSet_49 : decode cX12_outSet 49 = .ok (.istore_n 1, 1) := by decide +kernel
theorem dX12_outSet_50 : decode cX12_outSet 50 = .ok (.iinc 2 1, 3) := by decide +kernel
theorem dX12_outSet_53 : decode cX12_outSet 53 = .ok (.goto (-49), 3) := by decide +kernel
theorem dX12_outSet_56 : decode cX12_outSet 56 = .ok (.iload_n 1, 1) := by decide +kernel
theorem dX12_outSet_57 : decode cX12_outSet 57 = .ok (.ireturn, 1) := by decide +kernel
theorem dX12_bolts_0 : decode cX12_bolts 0 = .ok (.iload_n 1, 1) := by decide +kernel
theorem dX12_bolts_1 : decode cX12_bolts 1 = .ok (.invokestatic 205, 3) := by decide +kernel
theorem dX12_bolts_4 : decode cX12_bolts 4 = .ok (.ifCond .eq 22, 3) := by decide +kernel
theorem dX12_bolts_7 : decode cX12_bolts 7 = .ok (.iload_n 2, 1) := by decide +kernel
theorem dX12_bolts_8 : decode cX12_bolts 8 = .ok (.iconst 1, 1) := by decide +kernel
theorem dX12_bolts_9 : decode cX12_bolts 9 = .ok (.bipush 30, 2) := by decide +kernel
theorem dX12_bolts_11 : decode cX12_bolts 11 = .ok (.invokestatic 73, 3) := by decide +kernel
theorem dX12_bolts_14 : decode cX12_bolts 14 = .ok (.ifCond .eq 12, 3) := by decide +kernel
theorem dX12_bolts_17 : decode cX12_bolts 17 = .ok (.iload_n 3, 1) := by decide +kernel
theorem dX12_bolts_18 : decode cX12_bolts 18 = .ok (.iconst 0, 1) := by decide +kernel
theorem dX12_bolts_19 : decode cX12_bolts 19 = .ok (.iconst 1, 1) := by decide +kernel
theorem dX12_bolts_20 : decode cX12_bolts 20 = .ok (.invokestatic 73, 3) := by decide +kernel
theorem dX12_bolts_23 : decode cX12_bolts 23 = .ok (.ifCond .ne 5, 3) := by decide +kernel
theorem dX12_bolts_26 : decode cX12_bolts 26 = .ok (.iconst (-1), 1) := by decide +kernel
theorem dX12_bolts_27 : decode cX12_bolts 27 = .ok (.ireturn, 1) := by decide +kernel
theorem dX12_bolts_28 : decode cX12_bolts 28 = .ok (.aload_n 0, 1) := by decide +kernel
theorem dX12_bolts_29 : decode cX12_bolts 29 = .ok (.invokevirtual 195, 3) := by decide +kernel
theorem dX12_bolts_32 : decode cX12_bolts 32 = .ok (.iconst 0, 1) := by decide +kernel
theorem dX12_bolts_33 : decode cX12_bolts 33 = .ok (.istore 4, 2) := by decide +kernel
theorem dX12_bolts_35 : decode cX12_bolts 35 = .ok (.iload 4, 2) := by decide +kernel
theorem dX12_bolts_37 : decode cX12_bolts 37 = .ok (.iload_n 2, 1) := by decide +kernel
theorem dX12_bolts_38 : decode cX12_bolts 38 = .ok (.if_icmp .ge 19, 3) := by decide +kernel
theorem dX12_bolts_41 : decode cX12_bolts 41 = .ok (.aload_n 0, 1) := by decide +kernel
theorem dX12_bolts_42 : decode cX12_bolts 42 = .ok (.aload_n 0, 1) := by decide +kernel
theorem dX12_bolts_43 : decode cX12_bolts 43 = .ok (.getfield 56, 3) := by decide +kernel
theorem dX12_bolts_46 : decode cX12_bolts 46 = .ok (.iconst 0, 1) := by decide +kernel
theorem dX12_bolts_47 : decode cX12_bolts 47 = .ok (.iload_n 1, 1) := by decide +kernel
theorem dX12_bolts_48 : decode cX12_bolts 48 = .ok (.invokevirtual 208, 3) := by decide +kernel
theorem dX12_bolts_51 : decode cX12_bolts 51 = .ok (.iinc 4 1, 3) := by decide +kernel
theorem dX12_bolts_54 : decode cX12_bolts 54 = .ok (.goto (-19), 3) := by decide +kernel
theorem dX12_bolts_57 : decode cX12_bolts 57 = .ok (.aload_n 0, 1) := by decide +kernel
theorem dX12_bolts_58 : decode cX12_bolts 58 = .ok (.invokevirtual 240, 3) := by decide +kernel
theorem dX12_bolts_61 : decode cX12_bolts 61 = .ok (.istore 4, 2) := by decide +kernel
theorem dX12_bolts_63 : decode cX12_bolts 63 = .ok (.iload_n 3, 1) := by decide +kernel
theorem dX12_bolts_64 : decode cX12_bolts 64 = .ok (.ifCond .ne 6, 3) := by decide +kernel
theorem dX12_bolts_67 : decode cX12_bolts 67 = .ok (.iload 4, 2) := by decide +kernel
theorem dX12_bolts_69 : decode cX12_bolts 69 = .ok (.ireturn, 1) := by decide +kernel
theorem dX12_bolts_70 : decode cX12_bolts 70 = .ok (.aload_n 0, 1) := by decide +kernel
theorem dX12_bolts_71 : decode cX12_bolts 71 = .ok (.invokevirtual 195, 3) := by decide +kernel
theorem dX12_bolts_74 : decode cX12_bolts 74 = .ok (.iconst 0, 1) := by decide +kernel
theorem dX12_bolts_75 : decode cX12_bolts 75 = .ok (.istore 5, 2) := by decide +kernel
theorem dX12_bolts_77 : decode cX12_bolts 77 = .ok (.iload 5, 2) := by decide +kernel
theorem dX12_bolts_79 : decode cX12_bolts 79 = .ok (.iconst 2, 1) := by decide +kernel
theorem dX12_bolts_80 : decode cX12_bolts 80 = .ok (.aload_n 0, 1) := by decide +kernel
theorem dX12_bolts_81 : decode cX12_bolts 81 = .ok (.getfield 77, 3) := by decide +kernel
theorem dX12_bolts_84 : decode cX12_bolts 84 = .ok (.imul, 1) := by decide +kernel
theorem dX12_bolts_85 : decode cX12_bolts 85 = .ok (.if_icmp .ge 45, 3) := by decide +kernel
theorem dX12_bolts_88 : decode cX12_bolts 88 = .ok (.aload_n 0, 1) := by decide +kernel
theorem dX12_bolts_89 : decode cX12_bolts 89 = .ok (.getfield 56, 3) := by decide +kernel
theorem dX12_bolts_92 : decode cX12_bolts 92 = .ok (.iconst 3, 1) := by decide +kernel
theorem dX12_bolts_93 : decode cX12_bolts 93 = .ok (.iload 5, 2) := by decide +kernel
theorem dX12_bolts_95 : decode cX12_bolts 95 = .ok (.imul, 1) := by decide +kernel
theorem dX12_bolts_96 : decode cX12_bolts 96 = .ok (.iconst 2, 1) := by decide +kernel
theorem dX12_bolts_97 : decode cX12_bolts 97 = .ok (.iadd, 1) := by decide +kernel
theorem dX12_bolts_98 : decode cX12_bolts 98 = .ok (.iaload, 1) := by decide +kernel
theorem dX12_bolts_99 : decode cX12_bolts 99 = .ok (.ifCond .ne 25, 3) := by decide +kernel
theorem dX12_bolts_102 : decode cX12_bolts 102 = .ok (.aload_n 0, 1) := by decide +kernel
theorem dX12_bolts_103 : decode cX12_bolts 103 = .ok (.getfield 56, 3) := by decide +kernel
theorem dX12_bolts_106 : decode cX12_bolts 106 = .ok (.iconst 3, 1) := by decide +kernel
theorem dX12_bolts_107 : decode cX12_bolts 107 = .ok (.iload 5, 2) := by decide +kernel
theorem dX12_bolts_109 : decode cX12_bolts 109 = .ok (.imul, 1) := by decide +kernel
theorem dX12_bolts_110 : decode cX12_bolts 110 = .ok (.iconst 3, 1) := by decide +kernel
theorem dX12_bolts_111 : decode cX12_bolts 111 = .ok (.iastore, 1) := by decide +kernel
theorem dX12_bolts_112 : decode cX12_bolts 112 = .ok (.aload_n 0, 1) := by decide +kernel
theorem dX12_bolts_113 : decode cX12_bolts 113 = .ok (.getfield 56, 3) := by decide +kernel
theorem dX12_bolts_116 : decode cX12_bolts 116 = .ok (.iconst 3, 1) := by decide +kernel
theorem dX12_bolts_117 : decode cX12_bolts 117 = .ok (.iload 5, 2) := by decide +kernel
theorem dX12_bolts_119 : decode cX12_bolts 119 = .ok (.imul, 1) := by decide +kernel
theorem dX12_bolts_120 : decode cX12_bolts 120 = .ok (.iconst 1, 1) := by decide +kernel
theorem dX12_bolts_121 : decode cX12_bolts 121 = .ok (.iadd, 1) := by decide +kernel
theorem dX12_bolts_122 : decode cX12_bolts 122 = .ok (.iconst 0, 1) := by decide +kernel
theorem dX12_bolts_123 : decode cX12_bolts 123 = .ok (.iastore, 1) := by decide +kernel
theorem dX12_bolts_124 : decode cX12_bolts 124 = .ok (.iinc 5 1, 3) := by decide +kernel
theorem dX12_bolts_127 : decode cX12_bolts 127 = .ok (.goto (-50), 3) := by decide +kernel
theorem dX12_bolts_130 : decode cX12_bolts 130 = .ok (.iconst 0, 1) := by decide +kernel
theorem dX12_bolts_131 : decode cX12_bolts 131 = .ok (.istore 5, 2) := by decide +kernel
theorem dX12_bolts_133 : decode cX12_bolts 133 = .ok (.iload 5, 2) := by decide +kernel
theorem dX12_bolts_135 : decode cX12_bolts 135 = .ok (.iload_n 2, 1) := by decide +kernel
theorem dX12_bolts_136 : decode cX12_bolts 136 = .ok (.if_icmp .ge 19, 3) := by decide +kernel
theorem dX12_bolts_139 : decode cX12_bolts 139 = .ok (.aload_n 0, 1) := by decide +kernel
theorem dX12_bolts_140 : decode cX12_bolts 140 = .ok (.aload_n 0, 1) := by decide +kernel
theorem dX12_bolts_141 : decode cX12_bolts 141 = .ok (.getfield 56, 3) := by decide +kernel
theorem dX12_bolts_144 : decode cX12_bolts 144 = .ok (.iconst 0, 1) := by decide +kernel
theorem dX12_bolts_145 : decode cX12_bolts 145 = .ok (.iload_n 1, 1) := by decide +kernel
theorem dX12_bolts_146 : decode cX12_bolts 146 = .ok (.invokevirtual 208, 3) := by decide +kernel
theorem dX12_bolts_149 : decode cX12_bolts 149 = .ok (.iinc 5 1, 3) := by decide +kernel
theorem dX12_bolts_152 : decode cX12_bolts 152 = .ok (.goto (-19), 3) := by decide +kernel
theorem dX12_bolts_155 : decode cX12_bolts 155 = .ok (.iload 4, 2) := by decide +kernel
theorem dX12_bolts_157 : decode cX12_bolts 157 = .ok (.aload_n 0, 1) := by decide +kernel
theorem dX12_bolts_158 : decode cX12_bolts 158 = .ok (.invokevirtual 240, 3) := by decide +kernel
theorem dX12_bolts_161 : decode cX12_bolts 161 = .ok (.iconst (-1), 1) := by decide +kernel
theorem dX12_bolts_162 : decode cX12_bolts 162 = .ok (.ixor, 1) := by decide +kernel
theorem dX12_bolts_163 : decode cX12_bolts 163 = .ok (.iand, 1) := by decide +kernel
theorem dX12_bolts_164 : decode cX12_bolts 164 = .ok (.ireturn, 1) := by decide +kernel
theorem dX12_stays_0 : decode cX12_stays 0 = .ok (.iconst 0, 1) := by decide +kernel
theorem dX12_stays_1 : decode cX12_stays 1 = .ok (.istore 5, 2) := by decide +kernel
theorem dX12_stays_3 : decode cX12_stays 3 = .ok (.iload 5, 2) := by decide +kernel
theorem dX12_stays_5 : decode cX12_stays 5 = .ok (.bipush 64, 2) := by decide +kernel
theorem dX12_stays_7 : decode cX12_stays 7 = .ok (.if_icmp .ge 27, 3) := by decide +kernel
theorem dX12_stays_10 : decode cX12_stays 10 = .ok (.aload_n 0, 1) := by decide +kernel
theorem dX12_stays_11 : decode cX12_stays 11 = .ok (.getfield 59, 3) := by decide +kernel
theorem dX12_stays_14 : decode cX12_stays 14 = .ok (.iload 5, 2) := by decide +kernel
theorem dX12_stays_16 : decode cX12_stays 16 = .ok (.iload 5, 2) := by decide +kernel
theorem dX12_stays_18 : decode cX12_stays 18 = .ok (.iload_n 2, 1) := by decide +kernel
theorem dX12_stays_19 : decode cX12_stays 19 = .ok (.if_icmp .ne 7, 3) := by decide +kernel
theorem dX12_stays_22 : decode cX12_stays 22 = .ok (.lconst 1, 1) := by decide +kernel
theorem dX12_stays_23 : decode cX12_stays 23 = .ok (.goto 4, 3) := by decide +kernel
theorem dX12_stays_26 : decode cX12_stays 26 = .ok (.lconst 0, 1) := by decide +kernel
theorem dX12_stays_27 : decode cX12_stays 27 = .ok (.lastore, 1) := by decide +kernel
theorem dX12_stays_28 : decode cX12_stays 28 = .ok (.iinc 5 1, 3) := by decide +kernel
theorem dX12_stays_31 : decode cX12_stays 31 = .ok (.goto (-28), 3) := by decide +kernel
theorem dX12_stays_34 : decode cX12_stays 34 = .ok (.iconst 0, 1) := by decide +kernel
theorem dX12_stays_35 : decode cX12_stays 35 = .ok (.istore 5, 2) := by decide +kernel
theorem dX12_stays_37 : decode cX12_stays 37 = .ok (.iload 5, 2) := by decide +kernel
theorem dX12_stays_39 : decode cX12_stays 39 = .ok (.iload 4, 2) := by decide +kernel
theorem dX12_stays_41 : decode cX12_stays 41 = .ok (.if_icmp .ge 139, 3) := by decide +kernel
theorem dX12_stays_44 : decode cX12_stays 44 = .ok (.iconst 0, 1) := by decide +kernel
theorem dX12_stays_45 : decode cX12_stays 45 = .ok (.istore 6, 2) := by decide +kernel
theorem dX12_stays_47 : decode cX12_stays 47 = .ok (.iload 6, 2) := by decide +kernel
theorem dX12_stays_49 : decode cX12_stays 49 = .ok (.bipush 64, 2) := by decide +kernel
theorem dX12_stays_51 : decode cX12_stays 51 = .ok (.if_icmp .ge 17, 3) := by decide +kernel
theorem dX12_stays_54 : decode cX12_stays 54 = .ok (.aload_n 0, 1) := by decide +kernel
theorem dX12_stays_55 : decode cX12_stays 55 = .ok (.getfield 63, 3) := by decide +kernel
theorem dX12_stays_58 : decode cX12_stays 58 = .ok (.iload 6, 2) := by decide +kernel
theorem dX12_stays_60 : decode cX12_stays 60 = .ok (.lconst 0, 1) := by decide +kernel
theorem dX12_stays_61 : decode cX12_stays 61 = .ok (.lastore, 1) := by decide +kernel
theorem dX12_stays_62 : decode cX12_stays 62 = .ok (.iinc 6 1, 3) := by decide +kernel
theorem dX12_stays_65 : decode cX12_stays 65 = .ok (.goto (-18), 3) := by decide +kernel
theorem dX12_stays_68 : decode cX12_stays 68 = .ok (.iconst 0, 1) := by decide +kernel
theorem dX12_stays_69 : decode cX12_stays 69 = .ok (.istore 6, 2) := by decide +kernel
theorem dX12_stays_71 : decode cX12_stays 71 = .ok (.iload 6, 2) := by decide +kernel
theorem dX12_stays_73 : decode cX12_stays 73 = .ok (.iload_n 1, 1) := by decide +kernel
theorem dX12_stays_74 : decode cX12_stays 74 = .ok (.invokestatic 168, 3) := by decide +kernel
theorem dX12_stays_77 : decode cX12_stays 77 = .ok (.if_icmp .ge 54, 3) := by decide +kernel
theorem dX12_stays_80 : decode cX12_stays 80 = .ok (.iconst 1, 1) := by decide +kernel
theorem dX12_stays_81 : decode cX12_stays 81 = .ok (.istore 7, 2) := by decide +kernel
theorem dX12_stays_83 : decode cX12_stays 83 = .ok (.iload 7, 2) := by decide +kernel
theorem dX12_stays_85 : decode cX12_stays 85 = .ok (.bipush 7, 2) := by decide +kernel
theorem dX12_stays_87 : decode cX12_stays 87 = .ok (.if_icmp .ge 38, 3) := by decide +kernel
theorem dX12_stays_90 : decode cX12_stays 90 = .ok (.iload 6, 2) := by decide +kernel
theorem dX12_stays_92 : decode cX12_stays 92 = .ok (.iload_n 1, 1) := by decide +kernel
theorem dX12_stays_93 : decode cX12_stays 93 = .ok (.iload_n 3, 1) := by decide +kernel
theorem dX12_stays_94 : decode cX12_stays 94 = .ok (.iload 7, 2) := by decide +kernel
theorem dX12_stays_96 : decode cX12_stays 96 = .ok (.invokestatic 164, 3) := by decide +kernel
theorem dX12_stays_99 : decode cX12_stays 99 = .ok (.iadd, 1) := by decide +kernel
theorem dX12_stays_100 : decode cX12_stays 100 = .ok (.istore 8, 2) := by decide +kernel
theorem dX12_stays_102 : decode cX12_stays 102 = .ok (.aload_n 0, 1) := by decide +kernel
theorem dX12_stays_103 : decode cX12_stays 103 = .ok (.getfield 63, 3) := by decide +kernel
theorem dX12_stays_106 : decode cX12_stays 106 = .ok (.iload 8, 2) := by decide +kernel
theorem dX12_stays_108 : decode cX12_stays 108 = .ok (.dup2, 1) := by decide +kernel
theorem dX12_stays_109 : decode cX12_stays 109 = .ok (.laload, 1) := by decide +kernel
theorem dX12_stays_110 : decode cX12_stays 110 = .ok (.aload_n 0, 1) := by decide +kernel
theorem dX12_stays_111 : decode cX12_stays 111 = .ok (.getfield 59, 3) := by decide +kernel
theorem dX12_stays_114 : decode cX12_stays 114 = .ok (.iload 6, 2) := by decide +kernel
theorem dX12_stays_116 : decode cX12_stays 116 = .ok (.laload, 1) := by decide +kernel
theorem dX12_stays_117 : decode cX12_stays 117 = .ok (.ladd, 1) := by decide +kernel
theorem dX12_stays_118 : decode cX12_stays 118 = .ok (.lastore, 1) := by decide +kernel
theorem dX12_stays_119 : decode cX12_stays 119 = .ok (.iinc 7 1, 3) := by decide +kernel
theorem dX12_stays_122 : decode cX12_stays 122 = .ok (.goto (-39), 3) := by decide +kernel
theorem dX12_stays_125 : decode cX12_stays 125 = .ok (.iinc 6 1, 3) := by decide +kernel
theorem dX12_stays_128 : decode cX12_stays 128 = .ok (.goto (-57), 3) := by decide +kernel
theorem dX12_stays_131 : decode cX12_stays 131 = .ok (.iconst 0, 1) := by decide +kernel
theorem dX12_stays_132 : decode cX12_stays 132 = .ok (.istore 6, 2) := by decide +kernel
theorem dX12_stays_134 : decode cX12_stays 134 = .ok (.iload 6, 2) := by decide +kernel
theorem dX12_stays_136 : decode cX12_stays 136 = .ok (.bipush 64, 2) := by decide +kernel
theorem dX12_stays_138 : decode cX12_stays 138 = .ok (.if_icmp .ge 36, 3) := by decide +kernel
theorem dX12_stays_141 : decode cX12_stays 141 = .ok (.aload_n 0, 1) := by decide +kernel
theorem dX12_stays_142 : decode cX12_stays 142 = .ok (.getfield 59, 3) := by decide +kernel
theorem dX12_stays_145 : decode cX12_stays 145 = .ok (.iload 6, 2) := by decide +kernel
theorem dX12_stays_147 : decode cX12_stays 147 = .ok (.iload 6, 2) := by decide +kernel
theorem dX12_stays_149 : decode cX12_stays 149 = .ok (.iload_n 1, 1) := by decide +kernel
theorem dX12_stays_150 : decode cX12_stays 150 = .ok (.invokestatic 168, 3) := by decide +kernel
theorem dX12_stays_153 : decode cX12_stays 153 = .ok (.if_icmp .ge 13, 3) := by decide +kernel
theorem dX12_stays_156 : decode cX12_stays 156 = .ok (.aload_n 0, 1) := by decide +kernel
theorem dX12_stays_157 : decode cX12_stays 157 = .ok (.getfield 63, 3) := by decide +kernel
theorem dX12_stays_160 : decode cX12_stays 160 = .ok (.iload 6, 2) := by decide +kernel
theorem dX12_stays_162 : decode cX12_stays 162 = .ok (.laload, 1) := by decide +kernel
theorem dX12_stays_163 : decode cX12_stays 163 = .ok (.goto 4, 3) := by decide +kernel
theorem dX12_stays_166 : decode cX12_stays 166 = .ok (.lconst 0, 1) := by decide +kernel
theorem dX12_stays_167 : decode cX12_stays 167 = .ok (.lastore, 1) := by decide +kernel
theorem dX12_stays_168 : decode cX12_stays 168 = .ok (.iinc 6 1, 3) := by decide +kernel
theorem dX12_stays_171 : decode cX12_stays 171 = .ok (.goto (-37), 3) := by decide +kernel
theorem dX12_stays_174 : decode cX12_stays 174 = .ok (.iinc 5 1, 3) := by decide +kernel
theorem dX12_stays_177 : decode cX12_stays 177 = .ok (.goto (-140), 3) := by decide +kernel
theorem dX12_stays_180 : decode cX12_stays 180 = .ok (.lconst 0, 1) := by decide +kernel
theorem dX12_stays_181 : decode cX12_stays 181 = .ok (.lstore 5, 2) := by decide +kernel
theorem dX12_stays_183 : decode cX12_stays 183 = .ok (.iconst 0, 1) := by decide +kernel
theorem dX12_stays_184 : decode cX12_stays 184 = .ok (.istore 7, 2) := by decide +kernel
theorem dX12_stays_186 : decode cX12_stays 186 = .ok (.iload 7, 2) := by decide +kernel
theorem dX12_stays_188 : decode cX12_stays 188 = .ok (.bipush 64, 2) := by decide +kernel
theorem dX12_stays_190 : decode cX12_stays 190 = .ok (.if_icmp .ge 21, 3) := by decide +kernel
theorem dX12_stays_193 : decode cX12_stays 193 = .ok (.lload 5, 2) := by decide +kernel
theorem dX12_stays_195 : decode cX12_stays 195 = .ok (.aload_n 0, 1) := by decide +kernel
theorem dX12_stays_196 : decode cX12_stays 196 = .ok (.getfield 59, 3) := by decide +kernel
theorem dX12_stays_199 : decode cX12_stays 199 = .ok (.iload 7, 2) := by decide +kernel
theorem dX12_stays_201 : decode cX12_stays 201 = .ok (.laload, 1) := by decide +kernel
theorem dX12_stays_202 : decode cX12_stays 202 = .ok (.ladd, 1) := by decide +kernel
theorem dX12_stays_203 : decode cX12_stays 203 = .ok (.lstore 5, 2) := by decide +kernel
theorem dX12_stays_205 : decode cX12_stays 205 = .ok (.iinc 7 1, 3) := by decide +kernel
theorem dX12_stays_208 : decode cX12_stays 208 = .ok (.goto (-22), 3) := by decide +kernel
theorem dX12_stays_211 : decode cX12_stays 211 = .ok (.lload 5, 2) := by decide +kernel
theorem dX12_stays_213 : decode cX12_stays 213 = .ok (.lreturn, 1) := by decide +kernel
theorem dX12_odds_0 : decode cX12_odds 0 = .ok (.aload_n 0, 1) := by decide +kernel
theorem dX12_odds_1 : decode cX12_odds 1 = .ok (.iload_n 1, 1) := by decide +kernel
theorem dX12_odds_2 : decode cX12_odds 2 = .ok (.invokevirtual 185, 3) := by decide +kernel
theorem dX12_odds_5 : decode cX12_odds 5 = .ok (.ifCond .eq 32, 3) := by decide +kernel
theorem dX12_odds_8 : decode cX12_odds 8 = .ok (.iload_n 2, 1) := by decide +kernel
theorem dX12_odds_9 : decode cX12_odds 9 = .ok (.iconst 0, 1) := by decide +kernel
theorem dX12_odds_10 : decode cX12_odds 10 = .ok (.iconst 1, 1) := by decide +kernel
theorem dX12_odds_11 : decode cX12_odds 11 = .ok (.invokestatic 73, 3) := by decide +kernel
theorem dX12_odds_14 : decode cX12_odds 14 = .ok (.ifCond .eq 23, 3) := by decide +kernel
theorem dX12_odds_17 : decode cX12_odds 17 = .ok (.iload_n 3, 1) := by decide +kernel
theorem dX12_odds_18 : decode cX12_odds 18 = .ok (.iconst 0, 1) := by decide +kernel
theorem dX12_odds_19 : decode cX12_odds 19 = .ok (.bipush 6, 2) := by decide +kernel
theorem dX12_odds_21 : decode cX12_odds 21 = .ok (.invokestatic 73, 3) := by decide +kernel
theorem dX12_odds_24 : decode cX12_odds 24 = .ok (.ifCond .eq 13, 3) := by decide +kernel
theorem dX12_odds_27 : decode cX12_odds 27 = .ok (.iload 4, 2) := by decide +kernel
theorem dX12_odds_29 : decode cX12_odds 29 = .ok (.iconst 0, 1) := by decide +kernel
theorem dX12_odds_30 : decode cX12_odds 30 = .ok (.iconst 1, 1) := by decide +kernel
theorem dX12_odds_31 : decode cX12_odds 31 = .ok (.invokestatic 73, 3) := by decide +kernel
theorem dX12_odds_34 : decode cX12_odds 34 = .ok (.ifCond .ne 7, 3) := by decide +kernel
theorem dX12_odds_37 : decode cX12_odds 37 = .ok (.ldc2_w 243, 3) := by decide +kernel
theorem dX12_odds_40 : decode cX12_odds 40 = .ok (.lreturn, 1) := by decide +kernel
theorem dX12_odds_41 : decode cX12_odds 41 = .ok (.iload_n 1, 1) := by decide +kernel
theorem dX12_odds_42 : decode cX12_odds 42 = .ok (.iload_n 2, 1) := by decide +kernel
theorem dX12_odds_43 : decode cX12_odds 43 = .ok (.invokestatic 188, 3) := by decide +kernel
theorem dX12_odds_46 : decode cX12_odds 46 = .ok (.istore 5, 2) := by decide +kernel
theorem dX12_odds_48 : decode cX12_odds 48 = .ok (.aload_n 0, 1) := by decide +kernel
theorem dX12_odds_49 : decode cX12_odds 49 = .ok (.getfield 19, 3) := by decide +kernel
theorem dX12_odds_52 : decode cX12_odds 52 = .ok (.iload 5, 2) := by decide +kernel
theorem dX12_odds_54 : decode cX12_odds 54 = .ok (.iconst 2, 1) := by decide +kernel
theorem dX12_odds_55 : decode cX12_odds 55 = .ok (.iadd, 1) := by decide +kernel
theorem dX12_odds_56 : decode cX12_odds 56 = .ok (.iaload, 1) := by decide +kernel
theorem dX12_odds_57 : decode cX12_odds 57 = .ok (.iconst 1, 1) := by decide +kernel
theorem dX12_odds_58 : decode cX12_odds 58 = .ok (.if_icmp .ne 7, 3) := by decide +kernel
theorem dX12_odds_61 : decode cX12_odds 61 = .ok (.ldc2_w 245, 3) := by decide +kernel
theorem dX12_odds_64 : decode cX12_odds 64 = .ok (.lreturn, 1) := by decide +kernel
theorem dX12_odds_65 : decode cX12_odds 65 = .ok (.lconst 1, 1) := by decide +kernel
theorem dX12_odds_66 : decode cX12_odds 66 = .ok (.lstore 6, 2) := by decide +kernel
theorem dX12_odds_68 : decode cX12_odds 68 = .ok (.iconst 0, 1) := by decide +kernel
theorem dX12_odds_69 : decode cX12_odds 69 = .ok (.istore 8, 2) := by decide +kernel
theorem dX12_odds_71 : decode cX12_odds 71 = .ok (.iload 8, 2) := by decide +kernel
theorem dX12_odds_73 : decode cX12_odds 73 = .ok (.iload_n 3, 1) := by decide +kernel
theorem dX12_odds_74 : decode cX12_odds 74 = .ok (.if_icmp .ge 17, 3) := by decide +kernel
theorem dX12_odds_77 : decode cX12_odds 77 = .ok (.lload 6, 2) := by decide +kernel
theorem dX12_odds_79 : decode cX12_odds 79 = .ok (.ldc2_w 247, 3) := by decide +kernel
theorem dX12_odds_82 : decode cX12_odds 82 = .ok (.lmul, 1) := by decide +kernel
theorem dX12_odds_83 : decode cX12_odds 83 = .ok (.lstore 6, 2) := by decide +kernel
theorem dX12_odds_85 : decode cX12_odds 85 = .ok (.iinc 8 1, 3) := by decide +kernel
theorem dX12_odds_88 : decode cX12_odds 88 = .ok (.goto (-17), 3) := by decide +kernel
theorem dX12_odds_91 : decode cX12_odds 91 = .ok (.aload_n 0, 1) := by decide +kernel
theorem dX12_odds_92 : decode cX12_odds 92 = .ok (.getfield 19, 3) := by decide +kernel
theorem dX12_odds_95 : decode cX12_odds 95 = .ok (.iload 5, 2) := by decide +kernel
theorem dX12_odds_97 : decode cX12_odds 97 = .ok (.iaload, 1) := by decide +kernel
theorem dX12_odds_98 : decode cX12_odds 98 = .ok (.ifCond .ne 8, 3) := by decide +kernel
theorem dX12_odds_101 : decode cX12_odds 101 = .ok (.lload 6, 2) := by decide +kernel
theorem dX12_odds_103 : decode cX12_odds 103 = .ok (.goto 33, 3) := by decide +kernel
theorem dX12_odds_106 : decode cX12_odds 106 = .ok (.aload_n 0, 1) := by decide +kernel
theorem dX12_odds_107 : decode cX12_odds 107 = .ok (.aload_n 0, 1) := by decide +kernel
theorem dX12_odds_108 : decode cX12_odds 108 = .ok (.getfield 19, 3) := by decide +kernel
theorem dX12_odds_111 : decode cX12_odds 111 = .ok (.iload 5, 2) := by decide +kernel
theorem dX12_odds_113 : decode cX12_odds 113 = .ok (.iaload, 1) := by decide +kernel
theorem dX12_odds_114 : decode cX12_odds 114 = .ok (.aload_n 0, 1) := by decide +kernel
theorem dX12_odds_115 : decode cX12_odds 115 = .ok (.getfield 19, 3) := by decide +kernel
theorem dX12_odds_118 : decode cX12_odds 118 = .ok (.iload 5, 2) := by decide +kernel
theorem dX12_odds_120 : decode cX12_odds 120 = .ok (.iconst 1, 1) := by decide +kernel
theorem dX12_odds_121 : decode cX12_odds 121 = .ok (.iadd, 1) := by decide +kernel
theorem dX12_odds_122 : decode cX12_odds 122 = .ok (.iaload, 1) := by decide +kernel
theorem dX12_odds_123 : decode cX12_odds 123 = .ok (.aload_n 0, 1) := by decide +kernel
theorem dX12_odds_124 : decode cX12_odds 124 = .ok (.iconst 2, 1) := by decide +kernel
theorem dX12_odds_125 : decode cX12_odds 125 = .ok (.iload_n 1, 1) := by decide +kernel
theorem dX12_odds_126 : decode cX12_odds 126 = .ok (.imul, 1) := by decide +kernel
theorem dX12_odds_127 : decode cX12_odds 127 = .ok (.iload_n 2, 1) := by decide +kernel
theorem dX12_odds_128 : decode cX12_odds 128 = .ok (.iadd, 1) := by decide +kernel
theorem dX12_odds_129 : decode cX12_odds 129 = .ok (.invokevirtual 171, 3) := by decide +kernel
theorem dX12_odds_132 : decode cX12_odds 132 = .ok (.iload_n 3, 1) := by decide +kernel
theorem dX12_odds_133 : decode cX12_odds 133 = .ok (.invokevirtual 249, 3) := by decide +kernel
theorem dX12_odds_136 : decode cX12_odds 136 = .ok (.lstore 8, 2) := by decide +kernel
theorem dX12_odds_138 : decode cX12_odds 138 = .ok (.lload 8, 2) := by decide +kernel
theorem dX12_odds_140 : decode cX12_odds 140 = .ok (.lstore 10, 2) := by decide +kernel
theorem dX12_odds_142 : decode cX12_odds 142 = .ok (.lload 6, 2) := by decide +kernel
theorem dX12_odds_144 : decode cX12_odds 144 = .ok (.lstore 12, 2) := by decide +kernel
theorem dX12_odds_146 : decode cX12_odds 146 = .ok (.lload 12, 2) := by decide +kernel
theorem dX12_odds_148 : decode cX12_odds 148 = .ok (.lconst 0, 1) := by decide +kernel
theorem dX12_odds_149 : decode cX12_odds 149 = .ok (.lcmp, 1) := by decide +kernel
theorem dX12_odds_150 : decode cX12_odds 150 = .ok (.ifCond .le 21, 3) := by decide +kernel
theorem dX12_odds_153 : decode cX12_odds 153 = .ok (.lload 10, 2) := by decide +kernel
theorem dX12_odds_155 : decode cX12_odds 155 = .ok (.lload 12, 2) := by decide +kernel
theorem dX12_odds_157 : decode cX12_odds 157 = .ok (.lrem, 1) := by decide +kernel
theorem dX12_odds_158 : decode cX12_odds 158 = .ok (.lstore 14, 2) := by decide +kernel
theorem dX12_odds_160 : decode cX12_odds 160 = .ok (.lload 12, 2) := by decide +kernel
theorem dX12_odds_162 : decode cX12_odds 162 = .ok (.lstore 10, 2) := by decide +kernel
theorem dX12_odds_164 : decode cX12_odds 164 = .ok (.lload 14, 2) := by decide +kernel
theorem dX12_odds_166 : decode cX12_odds 166 = .ok (.lstore 12, 2) := by decide +kernel
theorem dX12_odds_168 : decode cX12_odds 168 = .ok (.goto (-22), 3) := by decide +kernel
theorem dX12_odds_171 : decode cX12_odds 171 = .ok (.iload 4, 2) := by decide +kernel
theorem dX12_odds_173 : decode cX12_odds 173 = .ok (.ifCond .ne 8, 3) := by decide +kernel
theorem dX12_odds_176 : decode cX12_odds 176 = .ok (.lload 8, 2) := by decide +kernel
theorem dX12_odds_178 : decode cX12_odds 178 = .ok (.goto 5, 3) := by decide +kernel
theorem dX12_odds_181 : decode cX12_odds 181 = .ok (.lload 6, 2) := by decide +kernel
theorem dX12_odds_183 : decode cX12_odds 183 = .ok (.lload 10, 2) := by decide +kernel
theorem dX12_odds_185 : decode cX12_odds 185 = .ok (.ldiv, 1) := by decide +kernel
theorem dX12_odds_186 : decode cX12_odds 186 = .ok (.lreturn, 1) := by decide +kernel
theorem dX12_mayLay_0 : decode cX12_mayLay 0 = .ok (.iconst 1, 1) := by decide +kernel
theorem dX12_mayLay_1 : decode cX12_mayLay 1 = .ok (.istore_n 3, 1) := by decide +kernel
theorem dX12_mayLay_2 : decode cX12_mayLay 2 = .ok (.iconst 0, 1) := by decide +kernel
theorem dX12_mayLay_3 : decode cX12_mayLay 3 = .ok (.istore 4, 2) := by decide +kernel
theorem dX12_mayLay_5 : decode cX12_mayLay 5 = .ok (.iload 4, 2) := by decide +kernel
theorem dX12_mayLay_7 : decode cX12_mayLay 7 = .ok (.aload_n 0, 1) := by decide +kernel
theorem dX12_mayLay_8 : decode cX12_mayLay 8 = .ok (.getfield 77, 3) := by decide +kernel
theorem dX12_mayLay_11 : decode cX12_mayLay 11 = .ok (.if_icmp .ge 50, 3) := by decide +kernel
theorem dX12_mayLay_14 : decode cX12_mayLay 14 = .ok (.iload_n 3, 1) := by decide +kernel
theorem dX12_mayLay_15 : decode cX12_mayLay 15 = .ok (.iload_n 1, 1) := by decide +kernel
theorem dX12_mayLay_16 : decode cX12_mayLay 16 = .ok (.iload 4, 2) := by decide +kernel
theorem dX12_mayLay_18 : decode cX12_mayLay 18 = .ok (.invokestatic 253, 3) := by decide +kernel
theorem dX12_mayLay_21 : decode cX12_mayLay 21 = .ok (.ifCond .eq 31, 3) := by decide +kernel
theorem dX12_mayLay_24 : decode cX12_mayLay 24 = .ok (.iconst 1, 1) := by decide +kernel
theorem dX12_mayLay_25 : decode cX12_mayLay 25 = .ok (.aload_n 0, 1) := by decide +kernel
theorem dX12_mayLay_26 : decode cX12_mayLay 26 = .ok (.getfield 13, 3) := by decide +kernel
theorem dX12_mayLay_29 : decode cX12_mayLay 29 = .ok (.iconst 3, 1) := by decide +kernel
theorem dX12_mayLay_30 : decode cX12_mayLay 30 = .ok (.iload 4, 2) := by decide +kernel
theorem dX12_mayLay_32 : decode cX12_mayLay 32 = .ok (.imul, 1) := by decide +kernel
theorem dX12_mayLay_33 : decode cX12_mayLay 33 = .ok (.iaload, 1) := by decide +kernel
theorem dX12_mayLay_34 : decode cX12_mayLay 34 = .ok (.ishl, 1) := by decide +kernel
theorem dX12_mayLay_35 : decode cX12_mayLay 35 = .ok (.iconst 1, 1) := by decide +kernel
theorem dX12_mayLay_36 : decode cX12_mayLay 36 = .ok (.aload_n 0, 1) := by decide +kernel
theorem dX12_mayLay_37 : decode cX12_mayLay 37 = .ok (.getfield 13, 3) := by decide +kernel
theorem dX12_mayLay_40 : decode cX12_mayLay 40 = .ok (.iconst 3, 1) := by decide +kernel
theorem dX12_mayLay_41 : decode cX12_mayLay 41 = .ok (.iload 4, 2) := by decide +kernel
theorem dX12_mayLay_43 : decode cX12_mayLay 43 = .ok (.imul, 1) := by decide +kernel
theorem dX12_mayLay_44 : decode cX12_mayLay 44 = .ok (.iconst 1, 1) := by decide +kernel
theorem dX12_mayLay_45 : decode cX12_mayLay 45 = .ok (.iadd, 1) := by decide +kernel
theorem dX12_mayLay_46 : decode cX12_mayLay 46 = .ok (.iaload, 1) := by decide +kernel
theorem dX12_mayLay_47 : decode cX12_mayLay 47 = .ok (.ishl, 1) := by decide +kernel
theorem dX12_mayLay_48 : decode cX12_mayLay 48 = .ok (.ior, 1) := by decide +kernel
theorem dX12_mayLay_49 : decode cX12_mayLay 49 = .ok (.goto 4, 3) := by decide +kernel
theorem dX12_mayLay_52 : decode cX12_mayLay 52 = .ok (.iconst 0, 1) := by decide +kernel
theorem dX12_mayLay_53 : decode cX12_mayLay 53 = .ok (.ior, 1) := by decide +kernel
theorem dX12_mayLay_54 : decode cX12_mayLay 54 = .ok (.istore_n 3, 1) := by decide +kernel
theorem dX12_mayLay_55 : decode cX12_mayLay 55 = .ok (.iinc 4 1, 3) := by decide +kernel
theorem dX12_mayLay_58 : decode cX12_mayLay 58 = .ok (.goto (-53), 3) := by decide +kernel
theorem dX12_mayLay_61 : decode cX12_mayLay 61 = .ok (.iload_n 1, 1) := by decide +kernel
theorem dX12_mayLay_62 : decode cX12_mayLay 62 = .ok (.iload_n 2, 1) := by decide +kernel
theorem dX12_mayLay_63 : decode cX12_mayLay 63 = .ok (.invokestatic 253, 3) := by decide +kernel
theorem dX12_mayLay_66 : decode cX12_mayLay 66 = .ok (.ifCond .ne 39, 3) := by decide +kernel
theorem dX12_mayLay_69 : decode cX12_mayLay 69 = .ok (.iload_n 3, 1) := by decide +kernel
theorem dX12_mayLay_70 : decode cX12_mayLay 70 = .ok (.aload_n 0, 1) := by decide +kernel
theorem dX12_mayLay_71 : decode cX12_mayLay 71 = .ok (.getfield 13, 3) := by decide +kernel
theorem dX12_mayLay_74 : decode cX12_mayLay 74 = .ok (.iconst 3, 1) := by decide +kernel
theorem dX12_mayLay_75 : decode cX12_mayLay 75 = .ok (.iload_n 2, 1) := by decide +kernel
theorem dX12_mayLay_76 : decode cX12_mayLay 76 = .ok (.imul, 1) := by decide +kernel
theorem dX12_mayLay_77 : decode cX12_mayLay 77 = .ok (.iaload, 1) := by decide +kernel
theorem dX12_mayLay_78 : decode cX12_mayLay 78 = .ok (.invokestatic 253, 3) := by decide +kernel
theorem dX12_mayLay_81 : decode cX12_mayLay 81 = .ok (.ifCond .ne 20, 3) := by decide +kernel
theorem dX12_mayLay_84 : decode cX12_mayLay 84 = .ok (.iload_n 3, 1) := by decide +kernel
theorem dX12_mayLay_85 : decode cX12_mayLay 85 = .ok (.aload_n 0, 1) := by decide +kernel
theorem dX12_mayLay_86 : decode cX12_mayLay 86 = .ok (.getfield 13, 3) := by decide +kernel
theorem dX12_mayLay_89 : decode cX12_mayLay 89 = .ok (.iconst 3, 1) := by decide +kernel
theorem dX12_mayLay_90 : decode cX12_mayLay 90 = .ok (.iload_n 2, 1) := by decide +kernel
theorem dX12_mayLay_91 : decode cX12_mayLay 91 = .ok (.imul, 1) := by decide +kernel
theorem dX12_mayLay_92 : decode cX12_mayLay 92 = .ok (.iconst 1, 1) := by decide +kernel
theorem dX12_mayLay_93 : decode cX12_mayLay 93 = .ok (.iadd, 1) := by decide +kernel
theorem dX12_mayLay_94 : decode cX12_mayLay 94 = .ok (.iaload, 1) := by decide +kernel
theorem dX12_mayLay_95 : decode cX12_mayLay 95 = .ok (.invokestatic 253, 3) := by decide +kernel
theorem dX12_mayLay_98 : decode cX12_mayLay 98 = .ok (.ifCond .eq 7, 3) := by decide +kernel
theorem dX12_mayLay_101 : decode cX12_mayLay 101 = .ok (.iconst 1, 1) := by decide +kernel
theorem dX12_mayLay_102 : decode cX12_mayLay 102 = .ok (.goto 4, 3) := by decide +kernel
theorem dX12_mayLay_105 : decode cX12_mayLay 105 = .ok (.iconst 0, 1) := by decide +kernel
theorem dX12_mayLay_106 : decode cX12_mayLay 106 = .ok (.ireturn, 1) := by decide +kernel
theorem dX12_findOrders_0 : decode cX12_findOrders 0 = .ok (.iconst 1, 1) := by decide +kernel
theorem dX12_findOrders_1 : decode cX12_findOrders 1 = .ok (.aload_n 0, 1) := by decide +kernel
theorem dX12_findOrders_2 : decode cX12_findOrders 2 = .ok (.getfield 77, 3) := by decide +kernel
theorem dX12_findOrders_5 : decode cX12_findOrders 5 = .ok (.ishl, 1) := by decide +kernel
theorem dX12_findOrders_6 : decode cX12_findOrders 6 = .ok (.iconst 1, 1) := by decide +kernel
theorem dX12_findOrders_7 : decode cX12_findOrders 7 = .ok (.isub, 1) := by decide +kernel
theorem dX12_findOrders_8 : decode cX12_findOrders 8 = .ok (.istore_n 1, 1) := by decide +kernel
theorem dX12_findOrders_9 : decode cX12_findOrders 9 = .ok (.aload_n 0, 1) := by decide +kernel
theorem dX12_findOrders_10 : decode cX12_findOrders 10 = .ok (.getfield 66, 3) := by decide +kernel
theorem dX12_findOrders_13 : decode cX12_findOrders 13 = .ok (.iload_n 1, 1) := by decide +kernel
theorem dX12_findOrders_14 : decode cX12_findOrders 14 = .ok (.iconst 1, 1) := by decide +kernel
theorem dX12_findOrders_15 : decode cX12_findOrders 15 = .ok (.iastore, 1) := by decide +kernel
theorem dX12_findOrders_16 : decode cX12_findOrders 16 = .ok (.iload_n 1, 1) := by decide +kernel
theorem dX12_findOrders_17 : decode cX12_findOrders 17 = .ok (.iconst 1, 1) := by decide +kernel
theorem dX12_findOrders_18 : decode cX12_findOrders 18 = .ok (.isub, 1) := by decide +kernel
theorem dX12_findOrders_19 : decode cX12_findOrders 19 = .ok (.istore_n 2, 1) := by decide +kernel
theorem dX12_findOrders_20 : decode cX12_findOrders 20 = .ok (.iload_n 2, 1) := by decide +kernel
theorem dX12_findOrders_21 : decode cX12_findOrders 21 = .ok (.ifCond .lt 64, 3) := by decide +kernel
theorem dX12_findOrders_24 : decode cX12_findOrders 24 = .ok (.iconst 0, 1) := by decide +kernel
theorem dX12_findOrders_25 : decode cX12_findOrders 25 = .ok (.istore_n 3, 1) := by decide +kernel
theorem dX12_findOrders_26 : decode cX12_findOrders 26 = .ok (.iconst 0, 1) := by decide +kernel
theorem dX12_findOrders_27 : decode cX12_findOrders 27 = .ok (.istore 4, 2) := by decide +kernel
theorem dX12_findOrders_29 : decode cX12_findOrders 29 = .ok (.iload 4, 2) := by decide +kernel
theorem dX12_findOrders_31 : decode cX12_findOrders 31 = .ok (.aload_n 0, 1) := by decide +kernel
theorem dX12_findOrders_32 : decode cX12_findOrders 32 = .ok (.getfield 77, 3) := by decide +kernel
theorem dX12_findOrders_35 : decode cX12_findOrders 35 = .ok (.if_icmp .ge 37, 3) := by decide +kernel
theorem dX12_findOrders_38 : decode cX12_findOrders 38 = .ok (.iload_n 3, 1) := by decide +kernel
theorem dX12_findOrders_39 : decode cX12_findOrders 39 = .ok (.aload_n 0, 1) := by decide +kernel
theorem dX12_findOrders_40 : decode cX12_findOrders 40 = .ok (.iload_n 2, 1) := by decide +kernel
theorem dX12_findOrders_41 : decode cX12_findOrders 41 = .ok (.iload 4, 2) := by decide +kernel
theorem dX12_findOrders_43 : decode cX12_findOrders 43 = .ok (.invokevirtual 256, 3) := by decide +kernel
theorem dX12_findOrders_46 : decode cX12_findOrders 46 = .ok (.ifCond .eq 17, 3) := by decide +kernel
theorem dX12_findOrders_49 : decode cX12_findOrders 49 = .ok (.aload_n 0, 1) := by decide +kernel
theorem dX12_findOrders_50 : decode cX12_findOrders 50 = .ok (.getfield 66, 3) := by decide +kernel
theorem dX12_findOrders_53 : decode cX12_findOrders 53 = .ok (.iload_n 2, 1) := by decide +kernel
theorem dX12_findOrders_54 : decode cX12_findOrders 54 = .ok (.iconst 1, 1) := by decide +kernel
theorem dX12_findOrders_55 : decode cX12_findOrders 55 = .ok (.iload 4, 2) := by decide +kernel
theorem dX12_findOrders_57 : decode cX12_findOrders 57 = .ok (.ishl, 1) := by decide +kernel
theorem dX12_findOrders_58 : decode cX12_findOrders 58 = .ok (.ior, 1) := by decide +kernel
theorem dX12_findOrders_59 : decode cX12_findOrders 59 = .ok (.iaload, 1) := by decide +kernel
theorem dX12_findOrders_60 : decode cX12_findOrders 60 = .ok (.goto 4, 3) := by decide +kernel
theorem dX12_findOrders_63 : decode cX12_findOrders 63 = .ok (.iconst 0, 1) := by decide +kernel
theorem dX12_findOrders_64 : decode cX12_findOrders 64 = .ok (.iadd, 1) := by decide +kernel
theorem dX12_findOrders_65 : decode cX12_findOrders 65 = .ok (.istore_n 3, 1) := by decide +kernel
theorem dX12_findOrders_66 : decode cX12_findOrders 66 = .ok (.iinc 4 1, 3) := by decide +kernel
theorem dX12_findOrders_69 : decode cX12_findOrders 69 = .ok (.goto (-40), 3) := by decide +kernel
theorem dX12_findOrders_72 : decode cX12_findOrders 72 = .ok (.aload_n 0, 1) := by decide +kernel
theorem dX12_findOrders_73 : decode cX12_findOrders 73 = .ok (.getfield 66, 3) := by decide +kernel
theorem dX12_findOrders_76 : decode cX12_findOrders 76 = .ok (.iload_n 2, 1) := by decide +kernel
theorem dX12_findOrders_77 : decode cX12_findOrders 77 = .ok (.iload_n 3, 1) := by decide +kernel
theorem dX12_findOrders_78 : decode cX12_findOrders 78 = .ok (.iastore, 1) := by decide +kernel
theorem dX12_findOrders_79 : decode cX12_findOrders 79 = .ok (.iinc 2 (-1), 3) := by decide +kernel
theorem dX12_findOrders_82 : decode cX12_findOrders 82 = .ok (.goto (-62), 3) := by decide +kernel
theorem dX12_findOrders_85 : decode cX12_findOrders 85 = .ok (.return_, 1) := by decide +kernel
theorem dX12_orders_0 : decode cX12_orders 0 = .ok (.iload_n 1, 1) := by decide +kernel
theorem dX12_orders_1 : decode cX12_orders 1 = .ok (.iconst (-1), 1) := by decide +kernel
theorem dX12_orders_2 : decode cX12_orders 2 = .ok (.if_icmp .ge 5, 3) := by decide +kernel
theorem dX12_orders_5 : decode cX12_orders 5 = .ok (.iconst (-1), 1) := by decide +kernel
theorem dX12_orders_6 : decode cX12_orders 6 = .ok (.ireturn, 1) := by decide +kernel
theorem dX12_orders_7 : decode cX12_orders 7 = .ok (.aload_n 0, 1) := by decide +kernel
theorem dX12_orders_8 : decode cX12_orders 8 = .ok (.invokevirtual 259, 3) := by decide +kernel
theorem dX12_orders_11 : decode cX12_orders 11 = .ok (.iload_n 1, 1) := by decide +kernel
theorem dX12_orders_12 : decode cX12_orders 12 = .ok (.ifCond .ge 10, 3) := by decide +kernel
theorem dX12_orders_15 : decode cX12_orders 15 = .ok (.aload_n 0, 1) := by decide +kernel
theorem dX12_orders_16 : decode cX12_orders 16 = .ok (.getfield 66, 3) := by decide +kernel
theorem dX12_orders_19 : decode cX12_orders 19 = .ok (.iconst 0, 1) := by decide +kernel
theorem dX12_orders_20 : decode cX12_orders 20 = .ok (.iaload, 1) := by decide +kernel
theorem dX12_orders_21 : decode cX12_orders 21 = .ok (.ireturn, 1) := by decide +kernel
theorem dX12_orders_22 : decode cX12_orders 22 = .ok (.aload_n 0, 1) := by decide +kernel
theorem dX12_orders_23 : decode cX12_orders 23 = .ok (.getfield 66, 3) := by decide +kernel
theorem dX12_orders_26 : decode cX12_orders 26 = .ok (.iconst 0, 1) := by decide +kernel
theorem dX12_orders_27 : decode cX12_orders 27 = .ok (.iaload, 1) := by decide +kernel
theorem dX12_orders_28 : decode cX12_orders 28 = .ok (.ifCond .ne 6, 3) := by decide +kernel
theorem dX12_orders_31 : decode cX12_orders 31 = .ok (.bipush (-9), 2) := by decide +kernel
theorem dX12_orders_33 : decode cX12_orders 33 = .ok (.ireturn, 1) := by decide +kernel
theorem dX12_orders_34 : decode cX12_orders 34 = .ok (.iload_n 1, 1) := by decide +kernel
theorem dX12_orders_35 : decode cX12_orders 35 = .ok (.aload_n 0, 1) := by decide +kernel
theorem dX12_orders_36 : decode cX12_orders 36 = .ok (.getfield 77, 3) := by decide +kernel
theorem dX12_orders_39 : decode cX12_orders 39 = .ok (.if_icmp .lt 6, 3) := by decide +kernel
theorem dX12_orders_42 : decode cX12_orders 42 = .ok (.bipush (-5), 2) := by decide +kernel
theorem dX12_orders_44 : decode cX12_orders 44 = .ok (.ireturn, 1) := by decide +kernel
theorem dX12_orders_45 : decode cX12_orders 45 = .ok (.iconst 0, 1) := by decide +kernel
theorem dX12_orders_46 : decode cX12_orders 46 = .ok (.istore_n 2, 1) := by decide +kernel
theorem dX12_orders_47 : decode cX12_orders 47 = .ok (.iconst 0, 1) := by decide +kernel
theorem dX12_orders_48 : decode cX12_orders 48 = .ok (.istore_n 3, 1) := by decide +kernel
theorem dX12_orders_49 : decode cX12_orders 49 = .ok (.iconst 0, 1) := by decide +kernel
theorem dX12_orders_50 : decode cX12_orders 50 = .ok (.istore 4, 2) := by decide +kernel
theorem dX12_orders_52 : decode cX12_orders 52 = .ok (.iload 4, 2) := by decide +kernel
theorem dX12_orders_54 : decode cX12_orders 54 = .ok (.iload_n 1, 1) := by decide +kernel
theorem dX12_orders_55 : decode cX12_orders 55 = .ok (.if_icmp .gt 45, 3) := by decide +kernel
theorem dX12_orders_58 : decode cX12_orders 58 = .ok (.iconst 0, 1) := by decide +kernel
theorem dX12_orders_59 : decode cX12_orders 59 = .ok (.istore_n 3, 1) := by decide +kernel
theorem dX12_orders_60 : decode cX12_orders 60 = .ok (.aload_n 0, 1) := by decide +kernel
theorem dX12_orders_61 : decode cX12_orders 61 = .ok (.iload_n 2, 1) := by decide +kernel
theorem dX12_orders_62 : decode cX12_orders 62 = .ok (.iload_n 3, 1) := by decide +kernel
theorem dX12_orders_63 : decode cX12_orders 63 = .ok (.invokevirtual 256, 3) := by decide +kernel
theorem dX12_orders_66 : decode cX12_orders 66 = .ok (.ifCond .eq 16, 3) := by decide +kernel
theorem dX12_orders_69 : decode cX12_orders 69 = .ok (.aload_n 0, 1) := by decide +kernel
theorem dX12_orders_70 : decode cX12_orders 70 = .ok (.getfield 66, 3) := by decide +kernel
theorem dX12_orders_73 : decode cX12_orders 73 = .ok (.iload_n 2, 1) := by decide +kernel
theorem dX12_orders_74 : decode cX12_orders 74 = .ok (.iconst 1, 1) := by decide +kernel
theorem dX12_orders_75 : decode cX12_orders 75 = .ok (.iload_n 3, 1) := by decide +kernel
theorem dX12_orders_76 : decode cX12_orders 76 = .ok (.ishl, 1) := by decide +kernel
theorem dX12_orders_77 : decode cX12_orders 77 = .ok (.ior, 1) := by decide +kernel
theorem dX12_orders_78 : decode cX12_orders 78 = .ok (.iaload, 1) := by decide +kernel
theorem dX12_orders_79 : decode cX12_orders 79 = .ok (.ifCond .ne 9, 3) := by decide +kernel
theorem dX12_orders_82 : decode cX12_orders 82 = .ok (.iinc 3 1, 3) := by decide +kernel
theorem dX12_orders_85 : decode cX12_orders 85 = .ok (.goto (-25), 3) := by decide +kernel
theorem dX12_orders_88 : decode cX12_orders 88 = .ok (.iload_n 2, 1) := by decide +kernel
theorem dX12_orders_89 : decode cX12_orders 89 = .ok (.iconst 1, 1) := by decide +kernel
theorem dX12_orders_90 : decode cX12_orders 90 = .ok (.iload_n 3, 1) := by decide +kernel
theorem dX12_orders_91 : decode cX12_orders 91 = .ok (.ishl, 1) := by decide +kernel
theorem dX12_orders_92 : decode cX12_orders 92 = .ok (.ior, 1) := by decide +kernel
theorem dX12_orders_93 : decode cX12_orders 93 = .ok (.istore_n 2, 1) := by decide +kernel
theorem dX12_orders_94 : decode cX12_orders 94 = .ok (.iinc 4 1, 3) := by decide +kernel
theorem dX12_orders_97 : decode cX12_orders 97 = .ok (.goto (-45), 3) := by decide +kernel
theorem dX12_orders_100 : decode cX12_orders 100 = .ok (.iload_n 3, 1) := by decide +kernel
theorem dX12_orders_101 : decode cX12_orders 101 = .ok (.ireturn, 1) := by decide +kernel
theorem dX12_barred_0 : decode cX12_barred 0 = .ok (.iconst 0, 1) := by decide +kernel
theorem dX12_barred_1 : decode cX12_barred 1 = .ok (.istore_n 1, 1) := by decide +kernel
theorem dX12_barred_2 : decode cX12_barred 2 = .ok (.iconst 0, 1) := by decide +kernel
theorem dX12_barred_3 : decode cX12_barred 3 = .ok (.istore_n 2, 1) := by decide +kernel
theorem dX12_barred_4 : decode cX12_barred 4 = .ok (.iload_n 2, 1) := by decide +kernel
theorem dX12_barred_5 : decode cX12_barred 5 = .ok (.aload_n 0, 1) := by decide +kernel
theorem dX12_barred_6 : decode cX12_barred 6 = .ok (.getfield 77, 3) := by decide +kernel
theorem dX12_barred_9 : decode cX12_barred 9 = .ok (.if_icmp .ge 52, 3) := by decide +kernel
theorem dX12_barred_12 : decode cX12_barred 12 = .ok (.iload_n 1, 1) := by decide +kernel
theorem dX12_barred_13 : decode cX12_barred 13 = .ok (.istore_n 3, 1) := by decide +kernel
theorem dX12_barred_14 : decode cX12_barred 14 = .ok (.iconst 0, 1) := by decide +kernel
theorem dX12_barred_15 : decode cX12_barred 15 = .ok (.istore 4, 2) := by decide +kernel
theorem dX12_barred_17 : decode cX12_barred 17 = .ok (.iload 4, 2) := by decide +kernel
theorem dX12_barred_19 : decode cX12_barred 19 = .ok (.aload_n 0, 1) := by decide +kernel
theorem dX12_barred_20 : decode cX12_barred 20 = .ok (.getfield 77, 3) := by decide +kernel
theorem dX12_barred_23 : decode cX12_barred 23 = .ok (.if_icmp .ge 30, 3) := by decide +kernel
theorem dX12_barred_26 : decode cX12_barred 26 = .ok (.iload_n 3, 1) := by decide +kernel
theorem dX12_barred_27 : decode cX12_barred 27 = .ok (.aload_n 0, 1) := by decide +kernel
theorem dX12_barred_28 : decode cX12_barred 28 = .ok (.iload_n 1, 1) := by decide +kernel
theorem dX12_barred_29 : decode cX12_barred 29 = .ok (.iload 4, 2) := by decide +kernel
theorem dX12_barred_31 : decode cX12_barred 31 = .ok (.invokevirtual 256, 3) := by decide +kernel
theorem dX12_barred_34 : decode cX12_barred 34 = .ok (.ifCond .eq 10, 3) := by decide +kernel
theorem dX12_barred_37 : decode cX12_barred 37 = .ok (.iconst 1, 1) := by decide +kernel
theorem dX12_barred_38 : decode cX12_barred 38 = .ok (.iload 4, 2) := by decide +kernel
theorem dX12_barred_40 : decode cX12_barred 40 = .ok (.ishl, 1) := by decide +kernel
theorem dX12_barred_41 : decode cX12_barred 41 = .ok (.goto 4, 3) := by decide +kernel
theorem dX12_barred_44 : decode cX12_barred 44 = .ok (.iconst 0, 1) := by decide +kernel
theorem dX12_barred_45 : decode cX12_barred 45 = .ok (.ior, 1) := by decide +kernel
theorem dX12_barred_46 : decode cX12_barred 46 = .ok (.istore_n 3, 1) := by decide +kernel
theorem dX12_barred_47 : decode cX12_barred 47 = .ok (.iinc 4 1, 3) := by decide +kernel
theorem dX12_barred_50 : decode cX12_barred 50 = .ok (.goto (-33), 3) := by decide +kernel
theorem dX12_barred_53 : decode cX12_barred 53 = .ok (.iload_n 3, 1) := by decide +kernel
theorem dX12_barred_54 : decode cX12_barred 54 = .ok (.istore_n 1, 1) := by decide +kernel
theorem dX12_barred_55 : decode cX12_barred 55 = .ok (.iinc 2 1, 3) := by decide +kernel
theorem dX12_barred_58 : decode cX12_barred 58 = .ok (.goto (-54), 3) := by decide +kernel
theorem dX12_barred_61 : decode cX12_barred 61 = .ok (.iconst 1, 1) := by decide +kernel
theorem dX12_barred_62 : decode cX12_barred 62 = .ok (.aload_n 0, 1) := by decide +kernel
theorem dX12_barred_63 : decode cX12_barred 63 = .ok (.getfield 77, 3) := by decide +kernel
theorem dX12_barred_66 : decode cX12_barred 66 = .ok (.ishl, 1) := by decide +kernel
theorem dX12_barred_67 : decode cX12_barred 67 = .ok (.iconst 1, 1) := by decide +kernel
theorem dX12_barred_68 : decode cX12_barred 68 = .ok (.isub, 1) := by decide +kernel
theorem dX12_barred_69 : decode cX12_barred 69 = .ok (.iload_n 1, 1) := by decide +kernel
theorem dX12_barred_70 : decode cX12_barred 70 = .ok (.iconst (-1), 1) := by decide +kernel
theorem dX12_barred_71 : decode cX12_barred 71 = .ok (.ixor, 1) := by decide +kernel
theorem dX12_barred_72 : decode cX12_barred 72 = .ok (.iand, 1) := by decide +kernel
theorem dX12_barred_73 : decode cX12_barred 73 = .ok (.ireturn, 1) := by decide +kernel
theorem dX12_hoist_0 : decode cX12_hoist 0 = .ok (.aload_n 0, 1) := by decide +kernel
theorem dX12_hoist_1 : decode cX12_hoist 1 = .ok (.iload_n 1, 1) := by decide +kernel
theorem dX12_hoist_2 : decode cX12_hoist 2 = .ok (.invokevirtual 178, 3) := by decide +kernel
theorem dX12_hoist_5 : decode cX12_hoist 5 = .ok (.ifCond .eq 13, 3) := by decide +kernel
theorem dX12_hoist_8 : decode cX12_hoist 8 = .ok (.iload_n 2, 1) := by decide +kernel
theorem dX12_hoist_9 : decode cX12_hoist 9 = .ok (.iconst 1, 1) := by decide +kernel
theorem dX12_hoist_10 : decode cX12_hoist 10 = .ok (.bipush 60, 2) := by decide +kernel
theorem dX12_hoist_12 : decode cX12_hoist 12 = .ok (.invokestatic 73, 3) := by decide +kernel
theorem dX12_hoist_15 : decode cX12_hoist 15 = .ok (.ifCond .ne 5, 3) := by decide +kernel
theorem dX12_hoist_18 : decode cX12_hoist 18 = .ok (.iconst (-1), 1) := by decide +kernel
theorem dX12_hoist_19 : decode cX12_hoist 19 = .ok (.ireturn, 1) := by decide +kernel
theorem dX12_hoist_20 : decode cX12_hoist 20 = .ok (.aload_n 0, 1) := by decide +kernel
theorem dX12_hoist_21 : decode cX12_hoist 21 = .ok (.invokevirtual 182, 3) := by decide +kernel
theorem dX12_hoist_24 : decode cX12_hoist 24 = .ok (.bipush (-9), 2) := by decide +kernel
theorem dX12_hoist_26 : decode cX12_hoist 26 = .ok (.istore_n 3, 1) := by decide +kernel
theorem dX12_hoist_27 : decode cX12_hoist 27 = .ok (.iconst 0, 1) := by decide +kernel
theorem dX12_hoist_28 : decode cX12_hoist 28 = .ok (.istore 4, 2) := by decide +kernel
theorem dX12_hoist_30 : decode cX12_hoist 30 = .ok (.iload 4, 2) := by decide +kernel
theorem dX12_hoist_32 : decode cX12_hoist 32 = .ok (.iconst 1, 1) := by decide +kernel
theorem dX12_hoist_33 : decode cX12_hoist 33 = .ok (.aload_n 0, 1) := by decide +kernel
theorem dX12_hoist_34 : decode cX12_hoist 34 = .ok (.getfield 80, 3) := by decide +kernel
theorem dX12_hoist_37 : decode cX12_hoist 37 = .ok (.ishl, 1) := by decide +kernel
theorem dX12_hoist_38 : decode cX12_hoist 38 = .ok (.if_icmp .ge 136, 3) := by decide +kernel
theorem dX12_hoist_41 : decode cX12_hoist 41 = .ok (.iconst 0, 1) := by decide +kernel
theorem dX12_hoist_42 : decode cX12_hoist 42 = .ok (.istore 5, 2) := by decide +kernel
theorem dX12_hoist_44 : decode cX12_hoist 44 = .ok (.iconst 0, 1) := by decide +kernel
theorem dX12_hoist_45 : decode cX12_hoist 45 = .ok (.istore 6, 2) := by decide +kernel
theorem dX12_hoist_47 : decode cX12_hoist 47 = .ok (.iload 6, 2) := by decide +kernel
theorem dX12_hoist_49 : decode cX12_hoist 49 = .ok (.aload_n 0, 1) := by decide +kernel
theorem dX12_hoist_50 : decode cX12_hoist 50 = .ok (.getfield 80, 3) := by decide +kernel
theorem dX12_hoist_53 : decode cX12_hoist 53 = .ok (.if_icmp .ge 37, 3) := by decide +kernel
theorem dX12_hoist_56 : decode cX12_hoist 56 = .ok (.iload 5, 2) := by decide +kernel
theorem dX12_hoist_58 : decode cX12_hoist 58 = .ok (.iload 4, 2) := by decide +kernel
theorem dX12_hoist_60 : decode cX12_hoist 60 = .ok (.iload 6, 2) := by decide +kernel
theorem dX12_hoist_62 : decode cX12_hoist 62 = .ok (.invokestatic 253, 3) := by decide +kernel
theorem dX12_hoist_65 : decode cX12_hoist 65 = .ok (.ifCond .eq 15, 3) := by decide +kernel
theorem dX12_hoist_68 : decode cX12_hoist 68 = .ok (.aload_n 0, 1) := by decide +kernel
theorem dX12_hoist_69 : decode cX12_hoist 69 = .ok (.getfield 16, 3) := by decide +kernel
theorem dX12_hoist_72 : decode cX12_hoist 72 = .ok (.iconst 2, 1) := by decide +kernel
theorem dX12_hoist_73 : decode cX12_hoist 73 = .ok (.iload 6, 2) := by decide +kernel
theorem dX12_hoist_75 : decode cX12_hoist 75 = .ok (.imul, 1) := by decide +kernel
theorem dX12_hoist_76 : decode cX12_hoist 76 = .ok (.iaload, 1) := by decide +kernel
theorem dX12_hoist_77 : decode cX12_hoist 77 = .ok (.goto 4, 3) := by decide +kernel
theorem dX12_hoist_80 : decode cX12_hoist 80 = .ok (.iconst 0, 1) := by decide +kernel
theorem dX12_hoist_81 : decode cX12_hoist 81 = .ok (.iadd, 1) := by decide +kernel
theorem dX12_hoist_82 : decode cX12_hoist 82 = .ok (.istore 5, 2) := by decide +kernel
theorem dX12_hoist_84 : decode cX12_hoist 84 = .ok (.iinc 6 1, 3) := by decide +kernel
theorem dX12_hoist_87 : decode cX12_hoist 87 = .ok (.goto (-40), 3) := by decide +kernel
theorem dX12_hoist_90 : decode cX12_hoist 90 = .ok (.iload 5, 2) := by decide +kernel
theorem dX12_hoist_92 : decode cX12_hoist 92 = .ok (.iload_n 2, 1) := by decide +kernel
theorem dX12_hoist_93 : decode cX12_hoist 93 = .ok (.aload_n 0, 1) := by decide +kernel
theorem dX12_hoist_94 : decode cX12_hoist 94 = .ok (.getfield 7, 3) := by decide +kernel
theorem dX12_hoist_97 : decode cX12_hoist 97 = .ok (.iconst 3, 1) := by decide +kernel
theorem dX12_hoist_98 : decode cX12_hoist 98 = .ok (.iload_n 1, 1) := by decide +kernel
theorem dX12_hoist_99 : decode cX12_hoist 99 = .ok (.imul, 1) := by decide +kernel
theorem dX12_hoist_100 : decode cX12_hoist 100 = .ok (.iaload, 1) := by decide +kernel
theorem dX12_hoist_101 : decode cX12_hoist 101 = .ok (.iconst 4, 1) := by decide +kernel
theorem dX12_hoist_102 : decode cX12_hoist 102 = .ok (.idiv, 1) := by decide +kernel
theorem dX12_hoist_103 : decode cX12_hoist 103 = .ok (.iadd, 1) := by decide +kernel
theorem dX12_hoist_104 : decode cX12_hoist 104 = .ok (.if_icmp .lt 31, 3) := by decide +kernel
theorem dX12_hoist_107 : decode cX12_hoist 107 = .ok (.aload_n 0, 1) := by decide +kernel
theorem dX12_hoist_108 : decode cX12_hoist 108 = .ok (.getfield 53, 3) := by decide +kernel
theorem dX12_hoist_111 : decode cX12_hoist 111 = .ok (.iload_n 1, 1) := by decide +kernel
theorem dX12_hoist_112 : decode cX12_hoist 112 = .ok (.iaload, 1) := by decide +kernel
theorem dX12_hoist_113 : decode cX12_hoist 113 = .ok (.iload_n 2, 1) := by decide +kernel
theorem dX12_hoist_114 : decode cX12_hoist 114 = .ok (.iadd, 1) := by decide +kernel
theorem dX12_hoist_115 : decode cX12_hoist 115 = .ok (.iload 5, 2) := by decide +kernel
theorem dX12_hoist_117 : decode cX12_hoist 117 = .ok (.iadd, 1) := by decide +kernel
theorem dX12_hoist_118 : decode cX12_hoist 118 = .ok (.aload_n 0, 1) := by decide +kernel
theorem dX12_hoist_119 : decode cX12_hoist 119 = .ok (.getfield 7, 3) := by decide +kernel
theorem dX12_hoist_122 : decode cX12_hoist 122 = .ok (.iconst 3, 1) := by decide +kernel
theorem dX12_hoist_123 : decode cX12_hoist 123 = .ok (.iload_n 1, 1) := by decide +kernel
theorem dX12_hoist_124 : decode cX12_hoist 124 = .ok (.imul, 1) := by decide +kernel
theorem dX12_hoist_125 : decode cX12_hoist 125 = .ok (.iconst 1, 1) := by decide +kernel
theorem dX12_hoist_126 : decode cX12_hoist 126 = .ok (.iadd, 1) := by decide +kernel
theorem dX12_hoist_127 : decode cX12_hoist 127 = .ok (.iaload, 1) := by decide +kernel
theorem dX12_hoist_128 : decode cX12_hoist 128 = .ok (.if_icmp .gt 7, 3) := by decide +kernel
theorem dX12_hoist_131 : decode cX12_hoist 131 = .ok (.iconst 1, 1) := by decide +kernel
theorem dX12_hoist_132 : decode cX12_hoist 132 = .ok (.goto 4, 3) := by decide +kernel
theorem dX12_hoist_135 : decode cX12_hoist 135 = .ok (.iconst 0, 1) := by decide +kernel
theorem dX12_hoist_136 : decode cX12_hoist 136 = .ok (.istore 6, 2) := by decide +kernel
theorem dX12_hoist_138 : decode cX12_hoist 138 = .ok (.iload 6, 2) := by decide +kernel
theorem dX12_hoist_140 : decode cX12_hoist 140 = .ok (.ifCond .eq 26, 3) := by decide +kernel
theorem dX12_hoist_143 : decode cX12_hoist 143 = .ok (.iload_n 3, 1) := by decide +kernel
theorem dX12_hoist_144 : decode cX12_hoist 144 = .ok (.bipush (-9), 2) := by decide +kernel
theorem dX12_hoist_146 : decode cX12_hoist 146 = .ok (.if_icmp .eq 15, 3) := by decide +kernel
theorem dX12_hoist_149 : decode cX12_hoist 149 = .ok (.iload 4, 2) := by decide +kernel
theorem dX12_hoist_151 : decode cX12_hoist 151 = .ok (.invokestatic 262, 3) := by decide +kernel
theorem dX12_hoist_154 : decode cX12_hoist 154 = .ok (.iload_n 3, 1) := by decide +kernel
theorem dX12_hoist_155 : decode cX12_hoist 155 = .ok (.invokestatic 262, 3) := by decide +kernel
theorem dX12_hoist_158 : decode cX12_hoist 158 = .ok (.if_icmp .ge 8, 3) := by decide +kernel
theorem dX12_hoist_161 : decode cX12_hoist 161 = .ok (.iload 4, 2) := by decide +kernel
theorem dX12_hoist_163 : decode cX12_hoist 163 = .ok (.goto 4, 3) := by decide +kernel
theorem dX12_hoist_166 : decode cX12_hoist 166 = .ok (.iload_n 3, 1) := by decide +kernel
theorem dX12_hoist_167 : decode cX12_hoist 167 = .ok (.istore_n 3, 1) := by decide +kernel
theorem dX12_hoist_168 : decode cX12_hoist 168 = .ok (.iinc 4 1, 3) := by decide +kernel
theorem dX12_hoist_171 : decode cX12_hoist 171 = .ok (.goto (-141), 3) := by decide +kernel
theorem dX12_hoist_174 : decode cX12_hoist 174 = .ok (.iload_n 3, 1) := by decide +kernel
theorem dX12_hoist_175 : decode cX12_hoist 175 = .ok (.ireturn, 1) := by decide +kernel
theorem dX12_test_0 : decode cX12_test 0 = .ok (.aload_n 0, 1) := by decide +kernel
theorem dX12_test_1 : decode cX12_test 1 = .ok (.iload_n 1, 1) := by decide +kernel
theorem dX12_test_2 : decode cX12_test 2 = .ok (.invokevirtual 185, 3) := by decide +kernel
theorem dX12_test_5 : decode cX12_test 5 = .ok (.ifCond .eq 22, 3) := by decide +kernel
theorem dX12_test_8 : decode cX12_test 8 = .ok (.iload_n 2, 1) := by decide +kernel
theorem dX12_test_9 : decode cX12_test 9 = .ok (.iconst 1, 1) := by decide +kernel
theorem dX12_test_10 : decode cX12_test 10 = .ok (.bipush 60, 2) := by decide +kernel
theorem dX12_test_12 : decode cX12_test 12 = .ok (.invokestatic 73, 3) := by decide +kernel
theorem dX12_test_15 : decode cX12_test 15 = .ok (.ifCond .eq 12, 3) := by decide +kernel
theorem dX12_test_18 : decode cX12_test 18 = .ok (.iload_n 3, 1) := by decide +kernel
theorem dX12_test_19 : decode cX12_test 19 = .ok (.iconst 0, 1) := by decide +kernel
theorem dX12_test_20 : decode cX12_test 20 = .ok (.iconst 1, 1) := by decide +kernel
theorem dX12_test_21 : decode cX12_test 21 = .ok (.invokestatic 73, 3) := by decide +kernel
theorem dX12_test_24 : decode cX12_test 24 = .ok (.ifCond .ne 5, 3) := by decide +kernel
theorem dX12_test_27 : decode cX12_test 27 = .ok (.iconst (-1), 1) := by decide +kernel
theorem dX12_test_28 : decode cX12_test 28 = .ok (.ireturn, 1) := by decide +kernel
theorem dX12_test_29 : decode cX12_test 29 = .ok (.aload_n 0, 1) := by decide +kernel
theorem dX12_test_30 : decode cX12_test 30 = .ok (.getfield 145, 3) := by decide +kernel
theorem dX12_test_33 : decode cX12_test 33 = .ok (.bipush 6, 2) := by decide +kernel
theorem dX12_test_35 : decode cX12_test 35 = .ok (.if_icmp .ne 6, 3) := by decide +kernel
theorem dX12_test_38 : decode cX12_test 38 = .ok (.bipush (-3), 2) := by decide +kernel
theorem dX12_test_40 : decode cX12_test 40 = .ok (.ireturn, 1) := by decide +kernel
theorem dX12_test_41 : decode cX12_test 41 = .ok (.aload_n 0, 1) := by decide +kernel
theorem dX12_test_42 : decode cX12_test 42 = .ok (.getfield 32, 3) := by decide +kernel
theorem dX12_test_45 : decode cX12_test 45 = .ok (.iconst 3, 1) := by decide +kernel
theorem dX12_test_46 : decode cX12_test 46 = .ok (.aload_n 0, 1) := by decide +kernel
theorem dX12_test_47 : decode cX12_test 47 = .ok (.getfield 145, 3) := by decide +kernel
theorem dX12_test_50 : decode cX12_test 50 = .ok (.imul, 1) := by decide +kernel
theorem dX12_test_51 : decode cX12_test 51 = .ok (.iload_n 1, 1) := by decide +kernel
theorem dX12_test_52 : decode cX12_test 52 = .ok (.iastore, 1) := by decide +kernel
theorem dX12_test_53 : decode cX12_test 53 = .ok (.aload_n 0, 1) := by decide +kernel
theorem dX12_test_54 : decode cX12_test 54 = .ok (.getfield 32, 3) := by decide +kernel
theorem dX12_test_57 : decode cX12_test 57 = .ok (.iconst 3, 1) := by decide +kernel
theorem dX12_test_58 : decode cX12_test 58 = .ok (.aload_n 0, 1) := by decide +kernel
theorem dX12_test_59 : decode cX12_test 59 = .ok (.getfield 145, 3) := by decide +kernel
theorem dX12_test_62 : decode cX12_test 62 = .ok (.imul, 1) := by decide +kernel
theorem dX12_test_63 : decode cX12_test 63 = .ok (.iconst 1, 1) := by decide +kernel
theorem dX12_test_64 : decode cX12_test 64 = .ok (.iadd, 1) := by decide +kernel
theorem dX12_test_65 : decode cX12_test 65 = .ok (.iload_n 2, 1) := by decide +kernel
theorem dX12_test_66 : decode cX12_test 66 = .ok (.iastore, 1) := by decide +kernel
theorem dX12_test_67 : decode cX12_test 67 = .ok (.aload_n 0, 1) := by decide +kernel
theorem dX12_test_68 : decode cX12_test 68 = .ok (.getfield 32, 3) := by decide +kernel
theorem dX12_test_71 : decode cX12_test 71 = .ok (.iconst 3, 1) := by decide +kernel
theorem dX12_test_72 : decode cX12_test 72 = .ok (.aload_n 0, 1) := by decide +kernel
theorem dX12_test_73 : decode cX12_test 73 = .ok (.getfield 145, 3) := by decide +kernel
theorem dX12_test_76 : decode cX12_test 76 = .ok (.imul, 1) := by decide +kernel
theorem dX12_test_77 : decode cX12_test 77 = .ok (.iconst 2, 1) := by decide +kernel
theorem dX12_test_78 : decode cX12_test 78 = .ok (.iadd, 1) := by decide +kernel
theorem dX12_test_79 : decode cX12_test 79 = .ok (.iload_n 3, 1) := by decide +kernel
theorem dX12_test_80 : decode cX12_test 80 = .ok (.iastore, 1) := by decide +kernel
theorem dX12_test_81 : decode cX12_test 81 = .ok (.aload_n 0, 1) := by decide +kernel
theorem dX12_test_82 : decode cX12_test 82 = .ok (.dup, 1) := by decide +kernel
theorem dX12_test_83 : decode cX12_test 83 = .ok (.getfield 145, 3) := by decide +kernel
theorem dX12_test_86 : decode cX12_test 86 = .ok (.iconst 1, 1) := by decide +kernel
theorem dX12_test_87 : decode cX12_test 87 = .ok (.iadd, 1) := by decide +kernel
theorem dX12_test_88 : decode cX12_test 88 = .ok (.putfield 145, 3) := by decide +kernel
theorem dX12_test_91 : decode cX12_test 91 = .ok (.aload_n 0, 1) := by decide +kernel
theorem dX12_test_92 : decode cX12_test 92 = .ok (.getfield 145, 3) := by decide +kernel
theorem dX12_test_95 : decode cX12_test 95 = .ok (.ireturn, 1) := by decide +kernel
theorem dX12_forget_0 : decode cX12_forget 0 = .ok (.aload_n 0, 1) := by decide +kernel
theorem dX12_forget_1 : decode cX12_forget 1 = .ok (.getfield 145, 3) := by decide +kernel
theorem dX12_forget_4 : decode cX12_forget 4 = .ok (.istore_n 1, 1) := by decide +kernel
theorem dX12_forget_5 : decode cX12_forget 5 = .ok (.aload_n 0, 1) := by decide +kernel
theorem dX12_forget_6 : decode cX12_forget 6 = .ok (.iconst 0, 1) := by decide +kernel
theorem dX12_forget_7 : decode cX12_forget 7 = .ok (.putfield 145, 3) := by decide +kernel
theorem dX12_forget_10 : decode cX12_forget 10 = .ok (.iload_n 1, 1) := by decide +kernel
theorem dX12_forget_11 : decode cX12_forget 11 = .ok (.ireturn, 1) := by decide +kernel
theorem dX12_breaks_0 : decode cX12_breaks 0 = .ok (.iload_n 3, 1) := by decide +kernel
theorem dX12_breaks_1 : decode cX12_breaks 1 = .ok (.iload_n 2, 1) := by decide +kernel
theorem dX12_breaks_2 : decode cX12_breaks 2 = .ok (.iload_n 1, 1) := by decide +kernel
theorem dX12_breaks_3 : decode cX12_breaks 3 = .ok (.if_icmp .ne 18, 3) := by decide +kernel
theorem dX12_breaks_6 : decode cX12_breaks 6 = .ok (.aload_n 0, 1) := by decide +kernel
theorem dX12_breaks_7 : decode cX12_breaks 7 = .ok (.getfield 13, 3) := by decide +kernel
theorem dX12_breaks_10 : decode cX12_breaks 10 = .ok (.iconst 3, 1) := by decide +kernel
theorem dX12_breaks_11 : decode cX12_breaks 11 = .ok (.iload_n 2, 1) := by decide +kernel
theorem dX12_breaks_12 : decode cX12_breaks 12 = .ok (.imul, 1) := by decide +kernel
theorem dX12_breaks_13 : decode cX12_breaks 13 = .ok (.iconst 2, 1) := by decide +kernel
theorem dX12_breaks_14 : decode cX12_breaks 14 = .ok (.iadd, 1) := by decide +kernel
theorem dX12_breaks_15 : decode cX12_breaks 15 = .ok (.iaload, 1) := by decide +kernel
theorem dX12_breaks_16 : decode cX12_breaks 16 = .ok (.iconst 2, 1) := by decide +kernel
theorem dX12_breaks_17 : decode cX12_breaks 17 = .ok (.idiv, 1) := by decide +kernel
theorem dX12_breaks_18 : decode cX12_breaks 18 = .ok (.goto 13, 3) := by decide +kernel
theorem dX12_breaks_21 : decode cX12_breaks 21 = .ok (.aload_n 0, 1) := by decide +kernel
theorem dX12_breaks_22 : decode cX12_breaks 22 = .ok (.getfield 13, 3) := by decide +kernel
theorem dX12_breaks_25 : decode cX12_breaks 25 = .ok (.iconst 3, 1) := by decide +kernel
theorem dX12_breaks_26 : decode cX12_breaks 26 = .ok (.iload_n 2, 1) := by decide +kernel
theorem dX12_breaks_27 : decode cX12_breaks 27 = .ok (.imul, 1) := by decide +kernel
theorem dX12_breaks_28 : decode cX12_breaks 28 = .ok (.iconst 2, 1) := by decide +kernel
theorem dX12_breaks_29 : decode cX12_breaks 29 = .ok (.iadd, 1) := by decide +kernel
theorem dX12_breaks_30 : decode cX12_breaks 30 = .ok (.iaload, 1) := by decide +kernel
theorem dX12_breaks_31 : decode cX12_breaks 31 = .ok (.if_icmp .le 7, 3) := by decide +kernel
theorem dX12_breaks_34 : decode cX12_breaks 34 = .ok (.iconst 1, 1) := by decide +kernel
theorem dX12_breaks_35 : decode cX12_breaks 35 = .ok (.goto 4, 3) := by decide +kernel
theorem dX12_breaks_38 : decode cX12_breaks 38 = .ok (.iconst 0, 1) := by decide +kernel
theorem dX12_breaks_39 : decode cX12_breaks 39 = .ok (.ireturn, 1) := by decide +kernel
theorem dX12_mayBeNow_0 : decode cX12_mayBeNow 0 = .ok (.iconst 0, 1) := by decide +kernel
theorem dX12_mayBeNow_1 : decode cX12_mayBeNow 1 = .ok (.istore_n 1, 1) := by decide +kernel
theorem dX12_mayBeNow_2 : decode cX12_mayBeNow 2 = .ok (.iconst 0, 1) := by decide +kernel
theorem dX12_mayBeNow_3 : decode cX12_mayBeNow 3 = .ok (.istore_n 2, 1) := by decide +kernel
theorem dX12_mayBeNow_4 : decode cX12_mayBeNow 4 = .ok (.iload_n 2, 1) := by decide +kernel
theorem dX12_mayBeNow_5 : decode cX12_mayBeNow 5 = .ok (.aload_n 0, 1) := by decide +kernel
theorem dX12_mayBeNow_6 : decode cX12_mayBeNow 6 = .ok (.getfield 77, 3) := by decide +kernel
theorem dX12_mayBeNow_9 : decode cX12_mayBeNow 9 = .ok (.if_icmp .ge 101, 3) := by decide +kernel
theorem dX12_mayBeNow_12 : decode cX12_mayBeNow 12 = .ok (.iconst 1, 1) := by decide +kernel
theorem dX12_mayBeNow_13 : decode cX12_mayBeNow 13 = .ok (.istore_n 3, 1) := by decide +kernel
theorem dX12_mayBeNow_14 : decode cX12_mayBeNow 14 = .ok (.iconst 0, 1) := by decide +kernel
theorem dX12_mayBeNow_15 : decode cX12_mayBeNow 15 = .ok (.istore 4, 2) := by decide +kernel
theorem dX12_mayBeNow_17 : decode cX12_mayBeNow 17 = .ok (.iload 4, 2) := by decide +kernel
theorem dX12_mayBeNow_19 : decode cX12_mayBeNow 19 = .ok (.aload_n 0, 1) := by decide +kernel
theorem dX12_mayBeNow_20 : decode cX12_mayBeNow 20 = .ok (.getfield 145, 3) := by decide +kernel
theorem dX12_mayBeNow_23 : decode cX12_mayBeNow 23 = .ok (.if_icmp .ge 67, 3) := by decide +kernel
theorem dX12_mayBeNow_26 : decode cX12_mayBeNow 26 = .ok (.iload_n 3, 1) := by decide +kernel
theorem dX12_mayBeNow_27 : decode cX12_mayBeNow 27 = .ok (.ifCond .eq 55, 3) := by decide +kernel
theorem dX12_mayBeNow_30 : decode cX12_mayBeNow 30 = .ok (.aload_n 0, 1) := by decide +kernel
theorem dX12_mayBeNow_31 : decode cX12_mayBeNow 31 = .ok (.iload_n 2, 1) := by decide +kernel
theorem dX12_mayBeNow_32 : decode cX12_mayBeNow 32 = .ok (.aload_n 0, 1) := by decide +kernel
theorem dX12_mayBeNow_33 : decode cX12_mayBeNow 33 = .ok (.getfield 32, 3) := by decide +kernel
theorem dX12_mayBeNow_36 : decode cX12_mayBeNow 36 = .ok (.iconst 3, 1) := by decide +kernel
theorem dX12_mayBeNow_37 : decode cX12_mayBeNow 37 = .ok (.iload 4, 2) := by decide +kernel
theorem dX12_mayBeNow_39 : decode cX12_mayBeNow 39 = .ok (.imul, 1) := by decide +kernel
theorem dX12_mayBeNow_40 : decode cX12_mayBeNow 40 = .ok (.iaload, 1) := by decide +kernel
theorem dX12_mayBeNow_41 : decode cX12_mayBeNow 41 = .ok (.aload_n 0, 1) := by decide +kernel
theorem dX12_mayBeNow_42 : decode cX12_mayBeNow 42 = .ok (.getfield 32, 3) := by decide +kernel
theorem dX12_mayBeNow_45 : decode cX12_mayBeNow 45 = .ok (.iconst 3, 1) := by decide +kernel
theorem dX12_mayBeNow_46 : decode cX12_mayBeNow 46 = .ok (.iload 4, 2) := by decide +kernel
theorem dX12_mayBeNow_48 : decode cX12_mayBeNow 48 = .ok (.imul, 1) := by decide +kernel
theorem dX12_mayBeNow_49 : decode cX12_mayBeNow 49 = .ok (.iconst 1, 1) := by decide +kernel
theorem dX12_mayBeNow_50 : decode cX12_mayBeNow 50 = .ok (.iadd, 1) := by decide +kernel
theorem dX12_mayBeNow_51 : decode cX12_mayBeNow 51 = .ok (.iaload, 1) := by decide +kernel
theorem dX12_mayBeNow_52 : decode cX12_mayBeNow 52 = .ok (.invokevirtual 265, 3) := by decide +kernel
theorem dX12_mayBeNow_55 : decode cX12_mayBeNow 55 = .ok (.aload_n 0, 1) := by decide +kernel
theorem dX12_mayBeNow_56 : decode cX12_mayBeNow 56 = .ok (.getfield 32, 3) := by decide +kernel
theorem dX12_mayBeNow_59 : decode cX12_mayBeNow 59 = .ok (.iconst 3, 1) := by decide +kernel
theorem dX12_mayBeNow_60 : decode cX12_mayBeNow 60 = .ok (.iload 4, 2) := by decide +kernel
theorem dX12_mayBeNow_62 : decode cX12_mayBeNow 62 = .ok (.imul, 1) := by decide +kernel
theorem dX12_mayBeNow_63 : decode cX12_mayBeNow 63 = .ok (.iconst 2, 1) := by decide +kernel
theorem dX12_mayBeNow_64 : decode cX12_mayBeNow 64 = .ok (.iadd, 1) := by decide +kernel
theorem dX12_mayBeNow_65 : decode cX12_mayBeNow 65 = .ok (.iaload, 1) := by decide +kernel
theorem dX12_mayBeNow_66 : decode cX12_mayBeNow 66 = .ok (.iconst 1, 1) := by decide +kernel
theorem dX12_mayBeNow_67 : decode cX12_mayBeNow 67 = .ok (.if_icmp .ne 7, 3) := by decide +kernel
theorem dX12_mayBeNow_70 : decode cX12_mayBeNow 70 = .ok (.iconst 1, 1) := by decide +kernel
theorem dX12_mayBeNow_71 : decode cX12_mayBeNow 71 = .ok (.goto 4, 3) := by decide +kernel
theorem dX12_mayBeNow_74 : decode cX12_mayBeNow 74 = .ok (.iconst 0, 1) := by decide +kernel
theorem dX12_mayBeNow_75 : decode cX12_mayBeNow 75 = .ok (.if_icmp .ne 7, 3) := by decide +kernel
theorem dX12_mayBeNow_78 : decode cX12_mayBeNow 78 = .ok (.iconst 1, 1) := by decide +kernel
theorem dX12_mayBeNow_79 : decode cX12_mayBeNow 79 = .ok (.goto 4, 3) := by decide +kernel
theorem dX12_mayBeNow_82 : decode cX12_mayBeNow 82 = .ok (.iconst 0, 1) := by decide +kernel
theorem dX12_mayBeNow_83 : decode cX12_mayBeNow 83 = .ok (.istore_n 3, 1) := by decide +kernel
theorem dX12_mayBeNow_84 : decode cX12_mayBeNow 84 = .ok (.iinc 4 1, 3) := by decide +kernel
theorem dX12_mayBeNow_87 : decode cX12_mayBeNow 87 = .ok (.goto (-70), 3) := by decide +kernel
theorem dX12_mayBeNow_90 : decode cX12_mayBeNow 90 = .ok (.iload_n 1, 1) := by decide +kernel
theorem dX12_mayBeNow_91 : decode cX12_mayBeNow 91 = .ok (.iload_n 3, 1) := by decide +kernel
theorem dX12_mayBeNow_92 : decode cX12_mayBeNow 92 = .ok (.ifCond .eq 9, 3) := by decide +kernel
theorem dX12_mayBeNow_95 : decode cX12_mayBeNow 95 = .ok (.iconst 1, 1) := by decide +kernel
theorem dX12_mayBeNow_96 : decode cX12_mayBeNow 96 = .ok (.iload_n 2, 1) := by decide +kernel
theorem dX12_mayBeNow_97 : decode cX12_mayBeNow 97 = .ok (.ishl, 1) := by decide +kernel
theorem dX12_mayBeNow_98 : decode cX12_mayBeNow 98 = .ok (.goto 4, 3) := by decide +kernel
theorem dX12_mayBeNow_101 : decode cX12_mayBeNow 101 = .ok (.iconst 0, 1) := by decide +kernel
theorem dX12_mayBeNow_102 : decode cX12_mayBeNow 102 = .ok (.ior, 1) := by decide +kernel
theorem dX12_mayBeNow_103 : decode cX12_mayBeNow 103 = .ok (.istore_n 1, 1) := by decide +kernel
theorem dX12_mayBeNow_104 : decode cX12_mayBeNow 104 = .ok (.iinc 2 1, 3) := by decide +kernel
theorem dX12_mayBeNow_107 : decode cX12_mayBeNow 107 = .ok (.goto (-103), 3) := by decide +kernel
theorem dX12_mayBeNow_110 : decode cX12_mayBeNow 110 = .ok (.iload_n 1, 1) := by decide +kernel
theorem dX12_mayBeNow_111 : decode cX12_mayBeNow 111 = .ok (.ireturn, 1) := by decide +kernel
theorem dX12_mayBe_0 : decode cX12_mayBe 0 = .ok (.aload_n 0, 1) := by decide +kernel
theorem dX12_mayBe_1 : decode cX12_mayBe 1 = .ok (.invokevirtual 268, 3) := by decide +kernel
theorem dX12_mayBe_4 : decode cX12_mayBe 4 = .ok (.ireturn, 1) := by decide +kernel
theorem dX12_ask_0 : decode cX12_ask 0 = .ok (.iload_n 1, 1) := by decide +kernel
theorem dX12_ask_1 : decode cX12_ask 1 = .ok (.iconst 0, 1) := by decide +kernel
theorem dX12_ask_2 : decode cX12_ask 2 = .ok (.iconst 1, 1) := by decide +kernel
theorem dX12_ask_3 : decode cX12_ask 3 = .ok (.invokestatic 73, 3) := by decide +kernel
theorem dX12_ask_6 : decode cX12_ask 6 = .ok (.ifCond .ne 5, 3) := by decide +kernel
theorem dX12_ask_9 : decode cX12_ask 9 = .ok (.iconst (-1), 1) := by decide +kernel
theorem dX12_ask_10 : decode cX12_ask 10 = .ok (.ireturn, 1) := by decide +kernel
theorem dX12_ask_11 : decode cX12_ask 11 = .ok (.aload_n 0, 1) := by decide +kernel
theorem dX12_ask_12 : decode cX12_ask 12 = .ok (.invokevirtual 268, 3) := by decide +kernel
theorem dX12_ask_15 : decode cX12_ask 15 = .ok (.istore_n 2, 1) := by decide +kernel
theorem dX12_ask_16 : decode cX12_ask 16 = .ok (.bipush (-9), 2) := by decide +kernel
theorem dX12_ask_18 : decode cX12_ask 18 = .ok (.istore_n 3, 1) := by decide +kernel
theorem dX12_ask_19 : decode cX12_ask 19 = .ok (.bipush 7, 2) := by decide +kernel
theorem dX12_ask_21 : decode cX12_ask 21 = .ok (.istore 4, 2) := by decide +kernel
theorem dX12_ask_23 : decode cX12_ask 23 = .ok (.iconst 0, 1) := by decide +kernel
theorem dX12_ask_24 : decode cX12_ask 24 = .ok (.istore 5, 2) := by decide +kernel
theorem dX12_ask_26 : decode cX12_ask 26 = .ok (.iload 5, 2) := by decide +kernel
theorem dX12_ask_28 : decode cX12_ask 28 = .ok (.bipush 40, 2) := by decide +kernel
theorem dX12_ask_30 : decode cX12_ask 30 = .ok (.aload_n 0, 1) := by decide +kernel
theorem dX12_ask_31 : decode cX12_ask 31 = .ok (.getfield 77, 3) := by decide +kernel
theorem dX12_ask_34 : decode cX12_ask 34 = .ok (.imul, 1) := by decide +kernel
theorem dX12_ask_35 : decode cX12_ask 35 = .ok (.if_icmp .ge 125, 3) := by decide +kernel
theorem dX12_ask_38 : decode cX12_ask 38 = .ok (.iconst 0, 1) := by decide +kernel
theorem dX12_ask_39 : decode cX12_ask 39 = .ok (.istore 6, 2) := by decide +kernel
theorem dX12_ask_41 : decode cX12_ask 41 = .ok (.iconst 0, 1) := by decide +kernel
theorem dX12_ask_42 : decode cX12_ask 42 = .ok (.istore 7, 2) := by decide +kernel
theorem dX12_ask_44 : decode cX12_ask 44 = .ok (.iload 7, 2) := by decide +kernel
theorem dX12_ask_46 : decode cX12_ask 46 = .ok (.aload_n 0, 1) := by decide +kernel
theorem dX12_ask_47 : decode cX12_ask 47 = .ok (.getfield 77, 3) := by decide +kernel
theorem dX12_ask_50 : decode cX12_ask 50 = .ok (.if_icmp .ge 49, 3) := by decide +kernel
theorem dX12_ask_53 : decode cX12_ask 53 = .ok (.iload 6, 2) := by decide +kernel
theorem dX12_ask_55 : decode cX12_ask 55 = .ok (.iload_n 2, 1) := by decide +kernel
theorem dX12_ask_56 : decode cX12_ask 56 = .ok (.iload 7, 2) := by decide +kernel
theorem dX12_ask_58 : decode cX12_ask 58 = .ok (.invokestatic 253, 3) := by decide +kernel
theorem dX12_ask_61 : decode cX12_ask 61 = .ok (.ifCond .eq 28, 3) := by decide +kernel
theorem dX12_ask_64 : decode cX12_ask 64 = .ok (.aload_n 0, 1) := by decide +kernel
theorem dX12_ask_65 : decode cX12_ask 65 = .ok (.iload 7, 2) := by decide +kernel
theorem dX12_ask_67 : decode cX12_ask 67 = .ok (.iload 5, 2) := by decide +kernel
theorem dX12_ask_69 : decode cX12_ask 69 = .ok (.bipush 40, 2) := by decide +kernel
theorem dX12_ask_71 : decode cX12_ask 71 = .ok (.idiv, 1) := by decide +kernel
theorem dX12_ask_72 : decode cX12_ask 72 = .ok (.iload 5, 2) := by decide +kernel
theorem dX12_ask_74 : decode cX12_ask 74 = .ok (.bipush 40, 2) := by decide +kernel
theorem dX12_ask_76 : decode cX12_ask 76 = .ok (.irem, 1) := by decide +kernel
theorem dX12_ask_77 : decode cX12_ask 77 = .ok (.iconst 1, 1) := by decide +kernel
theorem dX12_ask_78 : decode cX12_ask 78 = .ok (.iadd, 1) := by decide +kernel
theorem dX12_ask_79 : decode cX12_ask 79 = .ok (.invokevirtual 265, 3) := by decide +kernel
theorem dX12_ask_82 : decode cX12_ask 82 = .ok (.ifCond .eq 7, 3) := by decide +kernel
theorem dX12_ask_85 : decode cX12_ask 85 = .ok (.iconst 1, 1) := by decide +kernel
theorem dX12_ask_86 : decode cX12_ask 86 = .ok (.goto 4, 3) := by decide +kernel
theorem dX12_ask_89 : decode cX12_ask 89 = .ok (.iconst 0, 1) := by decide +kernel
theorem dX12_ask_90 : decode cX12_ask 90 = .ok (.iadd, 1) := by decide +kernel
theorem dX12_ask_91 : decode cX12_ask 91 = .ok (.istore 6, 2) := by decide +kernel
theorem dX12_ask_93 : decode cX12_ask 93 = .ok (.iinc 7 1, 3) := by decide +kernel
theorem dX12_ask_96 : decode cX12_ask 96 = .ok (.goto (-52), 3) := by decide +kernel
theorem dX12_ask_99 : decode cX12_ask 99 = .ok (.iload_n 2, 1) := by decide +kernel
theorem dX12_ask_100 : decode cX12_ask 100 = .ok (.invokestatic 262, 3) := by decide +kernel
theorem dX12_ask_103 : decode cX12_ask 103 = .ok (.iload 6, 2) := by decide +kernel
theorem dX12_ask_105 : decode cX12_ask 105 = .ok (.isub, 1) := by decide +kernel
theorem dX12_ask_106 : decode cX12_ask 106 = .ok (.istore 7, 2) := by decide +kernel
theorem dX12_ask_108 : decode cX12_ask 108 = .ok (.iload 6, 2) := by decide +kernel
theorem dX12_ask_110 : decode cX12_ask 110 = .ok (.iload 7, 2) := by decide +kernel
theorem dX12_ask_112 : decode cX12_ask 112 = .ok (.if_icmp .le 8, 3) := by decide +kernel
theorem dX12_ask_115 : decode cX12_ask 115 = .ok (.iload 6, 2) := by decide +kernel
theorem dX12_ask_117 : decode cX12_ask 117 = .ok (.goto 5, 3) := by decide +kernel
theorem dX12_ask_120 : decode cX12_ask 120 = .ok (.iload 7, 2) := by decide +kernel
theorem dX12_ask_122 : decode cX12_ask 122 = .ok (.istore 8, 2) := by decide +kernel
theorem dX12_ask_124 : decode cX12_ask 124 = .ok (.iload 8, 2) := by decide +kernel
theorem dX12_ask_126 : decode cX12_ask 126 = .ok (.iload 4, 2) := by decide +kernel
theorem dX12_ask_128 : decode cX12_ask 128 = .ok (.if_icmp .ge 8, 3) := by decide +kernel
theorem dX12_ask_131 : decode cX12_ask 131 = .ok (.iload 5, 2) := by decide +kernel
theorem dX12_ask_133 : decode cX12_ask 133 = .ok (.goto 4, 3) := by decide +kernel
theorem dX12_ask_136 : decode cX12_ask 136 = .ok (.iload_n 3, 1) := by decide +kernel
theorem dX12_ask_137 : decode cX12_ask 137 = .ok (.istore_n 3, 1) := by decide +kernel
theorem dX12_ask_138 : decode cX12_ask 138 = .ok (.iload 8, 2) := by decide +kernel
theorem dX12_ask_140 : decode cX12_ask 140 = .ok (.iload 4, 2) := by decide +kernel
theorem dX12_ask_142 : decode cX12_ask 142 = .ok (.if_icmp .ge 8, 3) := by decide +kernel
theorem dX12_ask_145 : decode cX12_ask 145 = .ok (.iload 8, 2) := by decide +kernel
theorem dX12_ask_147 : decode cX12_ask 147 = .ok (.goto 5, 3) := by decide +kernel
theorem dX12_ask_150 : decode cX12_ask 150 = .ok (.iload 4, 2) := by decide +kernel
theorem dX12_ask_152 : decode cX12_ask 152 = .ok (.istore 4, 2) := by decide +kernel
theorem dX12_ask_154 : decode cX12_ask 154 = .ok (.iinc 5 1, 3) := by decide +kernel
theorem dX12_ask_157 : decode cX12_ask 157 = .ok (.goto (-131), 3) := by decide +kernel
theorem dX12_ask_160 : decode cX12_ask 160 = .ok (.iload_n 3, 1) := by decide +kernel
theorem dX12_ask_161 : decode cX12_ask 161 = .ok (.bipush (-9), 2) := by decide +kernel
theorem dX12_ask_163 : decode cX12_ask 163 = .ok (.if_icmp .ne 8, 3) := by decide +kernel
theorem dX12_ask_166 : decode cX12_ask 166 = .ok (.bipush (-9), 2) := by decide +kernel
theorem dX12_ask_168 : decode cX12_ask 168 = .ok (.goto 20, 3) := by decide +kernel
theorem dX12_ask_171 : decode cX12_ask 171 = .ok (.iload_n 1, 1) := by decide +kernel
theorem dX12_ask_172 : decode cX12_ask 172 = .ok (.ifCond .ne 10, 3) := by decide +kernel
theorem dX12_ask_175 : decode cX12_ask 175 = .ok (.iload_n 3, 1) := by decide +kernel
theorem dX12_ask_176 : decode cX12_ask 176 = .ok (.bipush 40, 2) := by decide +kernel
theorem dX12_ask_178 : decode cX12_ask 178 = .ok (.idiv, 1) := by decide +kernel
theorem dX12_ask_179 : decode cX12_ask 179 = .ok (.goto 9, 3) := by decide +kernel
theorem dX12_ask_182 : decode cX12_ask 182 = .ok (.iload_n 3, 1) := by decide +kernel
theorem dX12_ask_183 : decode cX12_ask 183 = .ok (.bipush 40, 2) := by decide +kernel
theorem dX12_ask_185 : decode cX12_ask 185 = .ok (.irem, 1) := by decide +kernel
theorem dX12_ask_186 : decode cX12_ask 186 = .ok (.iconst 1, 1) := by decide +kernel
theorem dX12_ask_187 : decode cX12_ask 187 = .ok (.iadd, 1) := by decide +kernel
theorem dX12_ask_188 : decode cX12_ask 188 = .ok (.ireturn, 1) := by decide +kernel
theorem dX12_childRate_0 : decode cX12_childRate 0 = .ok (.aload_n 0, 1) := by decide +kernel
theorem dX12_childRate_1 : decode cX12_childRate 1 = .ok (.dup, 1) := by decide +kernel
theorem dX12_childRate_2 : decode cX12_childRate 2 = .ok (.getfield 271, 3) := by decide +kernel
theorem dX12_childRate_5 : decode cX12_childRate 5 = .ok (.lconst 1, 1) := by decide +kernel
theorem dX12_childRate_6 : decode cX12_childRate 6 = .ok (.ladd, 1) := by decide +kernel
theorem dX12_childRate_7 : decode cX12_childRate 7 = .ok (.putfield 271, 3) := by decide +kernel
theorem dX12_childRate_10 : decode cX12_childRate 10 = .ok (.aload_n 0, 1) := by decide +kernel
theorem dX12_childRate_11 : decode cX12_childRate 11 = .ok (.getfield 16, 3) := by decide +kernel
theorem dX12_childRate_14 : decode cX12_childRate 14 = .ok (.iconst 2, 1) := by decide +kernel
theorem dX12_childRate_15 : decode cX12_childRate 15 = .ok (.iload_n 1, 1) := by decide +kernel
theorem dX12_childRate_16 : decode cX12_childRate 16 = .ok (.imul, 1) := by decide +kernel
theorem dX12_childRate_17 : decode cX12_childRate 17 = .ok (.iaload, 1) := by decide +kernel
theorem dX12_childRate_18 : decode cX12_childRate 18 = .ok (.ireturn, 1) := by decide +kernel
theorem dX12_climberRate_0 : decode cX12_climberRate 0 = .ok (.aload_n 0, 1) := by decide +kernel
theorem dX12_climberRate_1 : decode cX12_climberRate 1 = .ok (.dup, 1) := by decide +kernel
theorem dX12_climberRate_2 : decode cX12_climberRate 2 = .ok (.getfield 271, 3) := by decide +kernel
theorem dX12_climberRate_5 : decode cX12_climberRate 5 = .ok (.ldc2_w 275, 3) := by decide +kernel
theorem dX12_climberRate_8 : decode cX12_climberRate 8 = .ok (.ladd, 1) := by decide +kernel
theorem dX12_climberRate_9 : decode cX12_climberRate 9 = .ok (.putfield 271, 3) := by decide +kernel
theorem dX12_climberRate_12 : decode cX12_climberRate 12 = .ok (.aload_n 0, 1) := by decide +kernel
theorem dX12_climberRate_13 : decode cX12_climberRate 13 = .ok (.getfield 19, 3) := by decide +kernel
theorem dX12_climberRate_16 : decode cX12_climberRate 16 = .ok (.iconst 1, 1) := by decide +kernel
theorem dX12_climberRate_17 : decode cX12_climberRate 17 = .ok (.iload_n 1, 1) := by decide +kernel
theorem dX12_climberRate_18 : decode cX12_climberRate 18 = .ok (.iadd, 1) := by decide +kernel
theorem dX12_climberRate_19 : decode cX12_climberRate 19 = .ok (.iaload, 1) := by decide +kernel
theorem dX12_climberRate_20 : decode cX12_climberRate 20 = .ok (.istore_n 2, 1) := by decide +kernel
theorem dX12_climberRate_21 : decode cX12_climberRate 21 = .ok (.aload_n 0, 1) := by decide +kernel
theorem dX12_climberRate_22 : decode cX12_climberRate 22 = .ok (.iload_n 1, 1) := by decide +kernel
theorem dX12_climberRate_23 : decode cX12_climberRate 23 = .ok (.invokevirtual 277, 3) := by decide +kernel
theorem dX12_climberRate_26 : decode cX12_climberRate 26 = .ok (.iload_n 2, 1) := by decide +kernel
theorem dX12_climberRate_27 : decode cX12_climberRate 27 = .ok (.bipush (-9), 2) := by decide +kernel
theorem dX12_climberRate_29 : decode cX12_climberRate 29 = .ok (.if_icmp .ne 7, 3) := by decide +kernel
theorem dX12_climberRate_32 : decode cX12_climberRate 32 = .ok (.iconst 0, 1) := by decide +kernel
theorem dX12_climberRate_33 : decode cX12_climberRate 33 = .ok (.goto 18, 3) := by decide +kernel
theorem dX12_climberRate_36 : decode cX12_climberRate 36 = .ok (.aload_n 0, 1) := by decide +kernel
theorem dX12_climberRate_37 : decode cX12_climberRate 37 = .ok (.getfield 7, 3) := by decide +kernel
theorem dX12_climberRate_40 : decode cX12_climberRate 40 = .ok (.iconst 3, 1) := by decide +kernel
theorem dX12_climberRate_41 : decode cX12_climberRate 41 = .ok (.aload_n 0, 1) := by decide +kernel
theorem dX12_climberRate_42 : decode cX12_climberRate 42 = .ok (.getfield 13, 3) := by decide +kernel
theorem dX12_climberRate_45 : decode cX12_climberRate 45 = .ok (.iconst 3, 1) := by decide +kernel
theorem dX12_climberRate_46 : decode cX12_climberRate 46 = .ok (.iload_n 2, 1) := by decide +kernel
theorem dX12_climberRate_47 : decode cX12_climberRate 47 = .ok (.imul, 1) := by decide +kernel
theorem dX12_climberRate_48 : decode cX12_climberRate 48 = .ok (.iaload, 1) := by decide +kernel
theorem dX12_climberRate_49 : decode cX12_climberRate 49 = .ok (.imul, 1) := by decide +kernel
theorem dX12_climberRate_50 : decode cX12_climberRate 50 = .ok (.iaload, 1) := by decide +kernel
theorem dX12_climberRate_51 : decode cX12_climberRate 51 = .ok (.iadd, 1) := by decide +kernel
theorem dX12_climberRate_52 : decode cX12_climberRate 52 = .ok (.ireturn, 1) := by decide +kernel
theorem dX12_guestRate_0 : decode cX12_guestRate 0 = .ok (.aload_n 0, 1) := by decide +kernel
theorem dX12_guestRate_1 : decode cX12_guestRate 1 = .ok (.dup, 1) := by decide +kernel
theorem dX12_guestRate_2 : decode cX12_guestRate 2 = .ok (.getfield 271, 3) := by decide +kernel
theorem dX12_guestRate_5 : decode cX12_guestRate 5 = .ok (.ldc2_w 280, 3) := by decide +kernel
theorem dX12_guestRate_8 : decode cX12_guestRate 8 = .ok (.ladd, 1) := by decide +kernel
theorem dX12_guestRate_9 : decode cX12_guestRate 9 = .ok (.putfield 271, 3) := by decide +kernel
theorem dX12_guestRate_12 : decode cX12_guestRate 12 = .ok (.aload_n 0, 1) := by decide +kernel
theorem dX12_guestRate_13 : decode cX12_guestRate 13 = .ok (.iload_n 1, 1) := by decide +kernel
theorem dX12_guestRate_14 : decode cX12_guestRate 14 = .ok (.invokevirtual 277, 3) := by decide +kernel
theorem dX12_guestRate_17 : decode cX12_guestRate 17 = .ok (.aload_n 0, 1) := by decide +kernel
theorem dX12_guestRate_18 : decode cX12_guestRate 18 = .ok (.getfield 16, 3) := by decide +kernel
theorem dX12_guestRate_21 : decode cX12_guestRate 21 = .ok (.iconst 2, 1) := by decide +kernel
theorem dX12_guestRate_22 : decode cX12_guestRate 22 = .ok (.iload_n 1, 1) := by decide +kernel
theorem dX12_guestRate_23 : decode cX12_guestRate 23 = .ok (.imul, 1) := by decide +kernel
theorem dX12_guestRate_24 : decode cX12_guestRate 24 = .ok (.iconst 1, 1) := by decide +kernel
theorem dX12_guestRate_25 : decode cX12_guestRate 25 = .ok (.iadd, 1) := by decide +kernel
theorem dX12_guestRate_26 : decode cX12_guestRate 26 = .ok (.iaload, 1) := by decide +kernel
theorem dX12_guestRate_27 : decode cX12_guestRate 27 = .ok (.isub, 1) := by decide +kernel
theorem dX12_guestRate_28 : decode cX12_guestRate 28 = .ok (.ireturn, 1) := by decide +kernel
theorem dX12_rate_0 : decode cX12_rate 0 = .ok (.iload_n 1, 1) := by decide +kernel
theorem dX12_rate_1 : decode cX12_rate 1 = .ok (.iconst 0, 1) := by decide +kernel
theorem dX12_rate_2 : decode cX12_rate 2 = .ok (.iconst 5, 1) := by decide +kernel
theorem dX12_rate_3 : decode cX12_rate 3 = .ok (.invokestatic 73, 3) := by decide +kernel
theorem dX12_rate_6 : decode cX12_rate 6 = .ok (.ifCond .eq 11, 3) := by decide +kernel
theorem dX12_rate_9 : decode cX12_rate 9 = .ok (.aload_n 0, 1) := by decide +kernel
theorem dX12_rate_10 : decode cX12_rate 10 = .ok (.iload_n 2, 1) := by decide +kernel
theorem dX12_rate_11 : decode cX12_rate 11 = .ok (.invokevirtual 192, 3) := by decide +kernel
theorem dX12_rate_14 : decode cX12_rate 14 = .ok (.ifCond .ne 7, 3) := by decide +kernel
theorem dX12_rate_17 : decode cX12_rate 17 = .ok (.ldc_w 282, 3) := by decide +kernel
theorem dX12_rate_20 : decode cX12_rate 20 = .ok (.ireturn, 1) := by decide +kernel
theorem dX12_rate_21 : decode cX12_rate 21 = .ok (.iload_n 1, 1) := by decide +kernel
theorem dX12_rate_22 : decode cX12_rate 22 = .ok (.tableswitch 92 0 4 #[34, 40, 46, 52, 72], 34) := by decide +kernel
theorem dX12_rate_56 : decode cX12_rate 56 = .ok (.aload_n 0, 1) := by decide +kernel
theorem dX12_rate_57 : decode cX12_rate 57 = .ok (.iload_n 2, 1) := by decide +kernel
theorem dX12_rate_58 : decode cX12_rate 58 = .ok (.invokevirtual 277, 3) := by decide +kernel
theorem dX12_rate_61 : decode cX12_rate 61 = .ok (.ireturn, 1) := by decide +kernel
theorem dX12_rate_62 : decode cX12_rate 62 = .ok (.aload_n 0, 1) := by decide +kernel
theorem dX12_rate_63 : decode cX12_rate 63 = .ok (.iload_n 2, 1) := by decide +kernel
theorem dX12_rate_64 : decode cX12_rate 64 = .ok (.invokevirtual 283, 3) := by decide +kernel
theorem dX12_rate_67 : decode cX12_rate 67 = .ok (.ireturn, 1) := by decide +kernel
theorem dX12_rate_68 : decode cX12_rate 68 = .ok (.aload_n 0, 1) := by decide +kernel
theorem dX12_rate_69 : decode cX12_rate 69 = .ok (.iload_n 2, 1) := by decide +kernel
theorem dX12_rate_70 : decode cX12_rate 70 = .ok (.invokevirtual 286, 3) := by decide +kernel
theorem dX12_rate_73 : decode cX12_rate 73 = .ok (.ireturn, 1) := by decide +kernel
theorem dX12_rate_74 : decode cX12_rate 74 = .ok (.aload_n 0, 1) := by decide +kernel
theorem dX12_rate_75 : decode cX12_rate 75 = .ok (.dup, 1) := by decide +kernel
theorem dX12_rate_76 : decode cX12_rate 76 = .ok (.getfield 271, 3) := by decide +kernel
theorem dX12_rate_79 : decode cX12_rate 79 = .ok (.ldc2_w 289, 3) := by decide +kernel
theorem dX12_rate_82 : decode cX12_rate 82 = .ok (.ladd, 1) := by decide +kernel
theorem dX12_rate_83 : decode cX12_rate 83 = .ok (.putfield 271, 3) := by decide +kernel
theorem dX12_rate_86 : decode cX12_rate 86 = .ok (.iconst 2, 1) := by decide +kernel
theorem dX12_rate_87 : decode cX12_rate 87 = .ok (.aload_n 0, 1) := by decide +kernel
theorem dX12_rate_88 : decode cX12_rate 88 = .ok (.iload_n 2, 1) := by decide +kernel
theorem dX12_rate_89 : decode cX12_rate 89 = .ok (.invokevirtual 283, 3) := by decide +kernel
theorem dX12_rate_92 : decode cX12_rate 92 = .ok (.imul, 1) := by decide +kernel
theorem dX12_rate_93 : decode cX12_rate 93 = .ok (.ireturn, 1) := by decide +kernel
theorem dX12_rate_94 : decode cX12_rate 94 = .ok (.aload_n 0, 1) := by decide +kernel
theorem dX12_rate_95 : decode cX12_rate 95 = .ok (.dup, 1) := by decide +kernel
theorem dX12_rate_96 : decode cX12_rate 96 = .ok (.getfield 271, 3) := by decide +kernel
theorem dX12_rate_99 : decode cX12_rate 99 = .ok (.ldc2_w 291, 3) := by decide +kernel
theorem dX12_rate_102 : decode cX12_rate 102 = .ok (.ladd, 1) := by decide +kernel
theorem dX12_rate_103 : decode cX12_rate 103 = .ok (.putfield 271, 3) := by decide +kernel
theorem dX12_rate_106 : decode cX12_rate 106 = .ok (.aload_n 0, 1) := by decide +kernel
theorem dX12_rate_107 : decode cX12_rate 107 = .ok (.iload_n 2, 1) := by decide +kernel
theorem dX12_rate_108 : decode cX12_rate 108 = .ok (.invokevirtual 286, 3) := by decide +kernel
theorem dX12_rate_111 : decode cX12_rate 111 = .ok (.iload_n 2, 1) := by decide +kernel
theorem dX12_rate_112 : decode cX12_rate 112 = .ok (.iadd, 1) := by decide +kernel
theorem dX12_rate_113 : decode cX12_rate 113 = .ok (.ireturn, 1) := by decide +kernel
theorem dX12_rate_114 : decode cX12_rate 114 = .ok (.aload_n 0, 1) := by decide +kernel
theorem dX12_rate_115 : decode cX12_rate 115 = .ok (.dup, 1) := by decide +kernel
theorem dX12_rate_116 : decode cX12_rate 116 = .ok (.getfield 271, 3) := by decide +kernel
theorem dX12_rate_119 : decode cX12_rate 119 = .ok (.ldc2_w 293, 3) := by decide +kernel
theorem dX12_rate_122 : decode cX12_rate 122 = .ok (.ladd, 1) := by decide +kernel
theorem dX12_rate_123 : decode cX12_rate 123 = .ok (.putfield 271, 3) := by decide +kernel
theorem dX12_rate_126 : decode cX12_rate 126 = .ok (.aload_n 0, 1) := by decide +kernel
theorem dX12_rate_127 : decode cX12_rate 127 = .ok (.iload_n 2, 1) := by decide +kernel
theorem dX12_rate_128 : decode cX12_rate 128 = .ok (.invokevirtual 277, 3) := by decide +kernel
theorem dX12_rate_131 : decode cX12_rate 131 = .ok (.aload_n 0, 1) := by decide +kernel
theorem dX12_rate_132 : decode cX12_rate 132 = .ok (.aload_n 0, 1) := by decide +kernel
theorem dX12_rate_133 : decode cX12_rate 133 = .ok (.getfield 19, 3) := by decide +kernel
theorem dX12_rate_136 : decode cX12_rate 136 = .ok (.bipush 6, 2) := by decide +kernel
theorem dX12_rate_138 : decode cX12_rate 138 = .ok (.invokevirtual 212, 3) := by decide +kernel
theorem dX12_rate_141 : decode cX12_rate 141 = .ok (.iadd, 1) := by decide +kernel
theorem dX12_rate_142 : decode cX12_rate 142 = .ok (.ireturn, 1) := by decide +kernel
theorem dX12_keep_0 : decode cX12_keep 0 = .ok (.iload_n 1, 1) := by decide +kernel
theorem dX12_keep_1 : decode cX12_keep 1 = .ok (.iconst 0, 1) := by decide +kernel
theorem dX12_keep_2 : decode cX12_keep 2 = .ok (.iconst 1, 1) := by decide +kernel
theorem dX12_keep_3 : decode cX12_keep 3 = .ok (.invokestatic 73, 3) := by decide +kernel
theorem dX12_keep_6 : decode cX12_keep 6 = .ok (.ifCond .ne 5, 3) := by decide +kernel
theorem dX12_keep_9 : decode cX12_keep 9 = .ok (.iconst (-1), 1) := by decide +kernel
theorem dX12_keep_10 : decode cX12_keep 10 = .ok (.ireturn, 1) := by decide +kernel
theorem dX12_keep_11 : decode cX12_keep 11 = .ok (.iconst 0, 1) := by decide +kernel
theorem dX12_keep_12 : decode cX12_keep 12 = .ok (.istore_n 2, 1) := by decide +kernel
theorem dX12_keep_13 : decode cX12_keep 13 = .ok (.iload_n 2, 1) := by decide +kernel
theorem dX12_keep_14 : decode cX12_keep 14 = .ok (.bipush 42, 2) := by decide +kernel
theorem dX12_keep_16 : decode cX12_keep 16 = .ok (.if_icmp .ge 26, 3) := by decide +kernel
theorem dX12_keep_19 : decode cX12_keep 19 = .ok (.aload_n 0, 1) := by decide +kernel
theorem dX12_keep_20 : decode cX12_keep 20 = .ok (.getfield 25, 3) := by decide +kernel
theorem dX12_keep_23 : decode cX12_keep 23 = .ok (.bipush 42, 2) := by decide +kernel
theorem dX12_keep_25 : decode cX12_keep 25 = .ok (.iload_n 1, 1) := by decide +kernel
theorem dX12_keep_26 : decode cX12_keep 26 = .ok (.imul, 1) := by decide +kernel
theorem dX12_keep_27 : decode cX12_keep 27 = .ok (.iload_n 2, 1) := by decide +kernel
theorem dX12_keep_28 : decode cX12_keep 28 = .ok (.iadd, 1) := by decide +kernel
theorem dX12_keep_29 : decode cX12_keep 29 = .ok (.aload_n 0, 1) := by decide +kernel
theorem dX12_keep_30 : decode cX12_keep 30 = .ok (.getfield 19, 3) := by decide +kernel
theorem dX12_keep_33 : decode cX12_keep 33 = .ok (.iload_n 2, 1) := by decide +kernel
theorem dX12_keep_34 : decode cX12_keep 34 = .ok (.iaload, 1) := by decide +kernel
theorem dX12_keep_35 : decode cX12_keep 35 = .ok (.iastore, 1) := by decide +kernel
theorem dX12_keep_36 : decode cX12_keep 36 = .ok (.iinc 2 1, 3) := by decide +kernel
theorem dX12_keep_39 : decode cX12_keep 39 = .ok (.goto (-26), 3) := by decide +kernel
theorem dX12_keep_42 : decode cX12_keep 42 = .ok (.aload_n 0, 1) := by decide +kernel
theorem dX12_keep_43 : decode cX12_keep 43 = .ok (.getfield 28, 3) := by decide +kernel
theorem dX12_keep_46 : decode cX12_keep 46 = .ok (.iload_n 1, 1) := by decide +kernel
theorem dX12_keep_47 : decode cX12_keep 47 = .ok (.iconst 1, 1) := by decide +kernel
theorem dX12_keep_48 : decode cX12_keep 48 = .ok (.bastore, 1) := by decide +kernel
theorem dX12_keep_49 : decode cX12_keep 49 = .ok (.aload_n 0, 1) := by decide +kernel
theorem dX12_keep_50 : decode cX12_keep 50 = .ok (.getfield 19, 3) := by decide +kernel
theorem dX12_keep_53 : decode cX12_keep 53 = .ok (.iconst 0, 1) := by decide +kernel
theorem dX12_keep_54 : decode cX12_keep 54 = .ok (.iaload, 1) := by decide +kernel
theorem dX12_keep_55 : decode cX12_keep 55 = .ok (.ireturn, 1) := by decide +kernel
theorem dX12_back_0 : decode cX12_back 0 = .ok (.iload_n 1, 1) := by decide +kernel
theorem dX12_back_1 : decode cX12_back 1 = .ok (.iconst 0, 1) := by decide +kernel
theorem dX12_back_2 : decode cX12_back 2 = .ok (.iconst 1, 1) := by decide +kernel
theorem dX12_back_3 : decode cX12_back 3 = .ok (.invokestatic 73, 3) := by decide +kernel
theorem dX12_back_6 : decode cX12_back 6 = .ok (.ifCond .ne 5, 3) := by decide +kernel
theorem dX12_back_9 : decode cX12_back 9 = .ok (.iconst (-1), 1) := by decide +kernel
theorem dX12_back_10 : decode cX12_back 10 = .ok (.ireturn, 1) := by decide +kernel
theorem dX12_back_11 : decode cX12_back 11 = .ok (.aload_n 0, 1) := by decide +kernel
theorem dX12_back_12 : decode cX12_back 12 = .ok (.getfield 28, 3) := by decide +kernel
theorem dX12_back_15 : decode cX12_back 15 = .ok (.iload_n 1, 1) := by decide +kernel
theorem dX12_back_16 : decode cX12_back 16 = .ok (.baload, 1) := by decide +kernel
theorem dX12_back_17 : decode cX12_back 17 = .ok (.ifCond .ne 6, 3) := by decide +kernel
theorem dX12_back_20 : decode cX12_back 20 = .ok (.bipush (-2), 2) := by decide +kernel
theorem dX12_back_22 : decode cX12_back 22 = .ok (.ireturn, 1) := by decide +kernel
theorem dX12_back_23 : decode cX12_back 23 = .ok (.iconst 0, 1) := by decide +kernel
theorem dX12_back_24 : decode cX12_back 24 = .ok (.istore_n 2, 1) := by decide +kernel
theorem dX12_back_25 : decode cX12_back 25 = .ok (.iload_n 2, 1) := by decide +kernel
theorem dX12_back_26 : decode cX12_back 26 = .ok (.bipush 42, 2) := by decide +kernel
theorem dX12_back_28 : decode cX12_back 28 = .ok (.if_icmp .ge 26, 3) := by decide +kernel
theorem dX12_back_31 : decode cX12_back 31 = .ok (.aload_n 0, 1) := by decide +kernel
theorem dX12_back_32 : decode cX12_back 32 = .ok (.getfield 19, 3) := by decide +kernel
theorem dX12_back_35 : decode cX12_back 35 = .ok (.iload_n 2, 1) := by decide +kernel
theorem dX12_back_36 : decode cX12_back 36 = .ok (.aload_n 0, 1) := by decide +kernel
theorem dX12_back_37 : decode cX12_back 37 = .ok (.getfield 25, 3) := by decide +kernel
theorem dX12_back_40 : decode cX12_back 40 = .ok (.bipush 42, 2) := by decide +kernel
theorem dX12_back_42 : decode cX12_back 42 = .ok (.iload_n 1, 1) := by decide +kernel
theorem dX12_back_43 : decode cX12_back 43 = .ok (.imul, 1) := by decide +kernel
theorem dX12_back_44 : decode cX12_back 44 = .ok (.iload_n 2, 1) := by decide +kernel
theorem dX12_back_45 : decode cX12_back 45 = .ok (.iadd, 1) := by decide +kernel
theorem dX12_back_46 : decode cX12_back 46 = .ok (.iaload, 1) := by decide +kernel
theorem dX12_back_47 : decode cX12_back 47 = .ok (.iastore, 1) := by decide +kernel
theorem dX12_back_48 : decode cX12_back 48 = .ok (.iinc 2 1, 3) := by decide +kernel
theorem dX12_back_51 : decode cX12_back 51 = .ok (.goto (-26), 3) := by decide +kernel
theorem dX12_back_54 : decode cX12_back 54 = .ok (.aload_n 0, 1) := by decide +kernel
theorem dX12_back_55 : decode cX12_back 55 = .ok (.iconst 0, 1) := by decide +kernel
theorem dX12_back_56 : decode cX12_back 56 = .ok (.putfield 142, 3) := by decide +kernel
theorem dX12_back_59 : decode cX12_back 59 = .ok (.aload_n 0, 1) := by decide +kernel
theorem dX12_back_60 : decode cX12_back 60 = .ok (.getfield 19, 3) := by decide +kernel
theorem dX12_back_63 : decode cX12_back 63 = .ok (.iconst 0, 1) := by decide +kernel
theorem dX12_back_64 : decode cX12_back 64 = .ok (.iaload, 1) := by decide +kernel
theorem dX12_back_65 : decode cX12_back 65 = .ok (.ireturn, 1) := by decide +kernel
theorem dX12_count_0 : decode cX12_count 0 = .ok (.iload_n 1, 1) := by decide +kernel
theorem dX12_count_1 : decode cX12_count 1 = .ok (.tableswitch 75 0 5 #[39, 44, 49, 54, 59, 70], 39) := by decide +kernel
theorem dX12_count_40 : decode cX12_count 40 = .ok (.aload_n 0, 1) := by decide +kernel
theorem dX12_count_41 : decode cX12_count 41 = .ok (.getfield 69, 3) := by decide +kernel
theorem dX12_count_44 : decode cX12_count 44 = .ok (.ireturn, 1) := by decide +kernel
theorem dX12_count_45 : decode cX12_count 45 = .ok (.aload_n 0, 1) := by decide +kernel
theorem dX12_count_46 : decode cX12_count 46 = .ok (.getfield 77, 3) := by decide +kernel
theorem dX12_count_49 : decode cX12_count 49 = .ok (.ireturn, 1) := by decide +kernel
theorem dX12_count_50 : decode cX12_count 50 = .ok (.aload_n 0, 1) := by decide +kernel
theorem dX12_count_51 : decode cX12_count 51 = .ok (.getfield 80, 3) := by decide +kernel
theorem dX12_count_54 : decode cX12_count 54 = .ok (.ireturn, 1) := by decide +kernel
theorem dX12_count_55 : decode cX12_count 55 = .ok (.aload_n 0, 1) := by decide +kernel
theorem dX12_count_56 : decode cX12_count 56 = .ok (.getfield 145, 3) := by decide +kernel
theorem dX12_count_59 : decode cX12_count 59 = .ok (.ireturn, 1) := by decide +kernel
theorem dX12_count_60 : decode cX12_count 60 = .ok (.aload_n 0, 1) := by decide +kernel
theorem dX12_count_61 : decode cX12_count 61 = .ok (.aload_n 0, 1) := by decide +kernel
theorem dX12_count_62 : decode cX12_count 62 = .ok (.getfield 19, 3) := by decide +kernel
theorem dX12_count_65 : decode cX12_count 65 = .ok (.bipush 6, 2) := by decide +kernel
theorem dX12_count_67 : decode cX12_count 67 = .ok (.invokevirtual 212, 3) := by decide +kernel
theorem dX12_count_70 : decode cX12_count 70 = .ok (.ireturn, 1) := by decide +kernel
theorem dX12_count_71 : decode cX12_count 71 = .ok (.aload_n 0, 1) := by decide +kernel
theorem dX12_count_72 : decode cX12_count 72 = .ok (.getfield 83, 3) := by decide +kernel
theorem dX12_count_75 : decode cX12_count 75 = .ok (.ireturn, 1) := by decide +kernel
theorem dX12_count_76 : decode cX12_count 76 = .ok (.iconst (-1), 1) := by decide +kernel
theorem dX12_count_77 : decode cX12_count 77 = .ok (.ireturn, 1) := by decide +kernel
theorem dX12_trace_0 : decode cX12_trace 0 = .ok (.aload_n 0, 1) := by decide +kernel
theorem dX12_trace_1 : decode cX12_trace 1 = .ok (.getfield 271, 3) := by decide +kernel
theorem dX12_trace_4 : decode cX12_trace 4 = .ok (.lreturn, 1) := by decide +kernel
theorem dJ6_numberOfTrailingZeros_0f7a4_0 : decode cJ6_numberOfTrailingZeros_0f7a4 0 = .ok (.iload_n 0, 1) := by decide +kernel
theorem dJ6_numberOfTrailingZeros_0f7a4_1 : decode cJ6_numberOfTrailingZeros_0f7a4 1 = .ok (.iconst (-1), 1) := by decide +kernel
theorem dJ6_numberOfTrailingZeros_0f7a4_2 : decode cJ6_numberOfTrailingZeros_0f7a4 2 = .ok (.ixor, 1) := by decide +kernel
theorem dJ6_numberOfTrailingZeros_0f7a4_3 : decode cJ6_numberOfTrailingZeros_0f7a4 3 = .ok (.iload_n 0, 1) := by decide +kernel
theorem dJ6_numberOfTrailingZeros_0f7a4_4 : decode cJ6_numberOfTrailingZeros_0f7a4 4 = .ok (.iconst 1, 1) := by decide +kernel
theorem dJ6_numberOfTrailingZeros_0f7a4_5 : decode cJ6_numberOfTrailingZeros_0f7a4 5 = .ok (.isub, 1) := by decide +kernel
theorem dJ6_numberOfTrailingZeros_0f7a4_6 : decode cJ6_numberOfTrailingZeros_0f7a4 6 = .ok (.iand, 1) := by decide +kernel
theorem dJ6_numberOfTrailingZeros_0f7a4_7 : decode cJ6_numberOfTrailingZeros_0f7a4 7 = .ok (.istore_n 0, 1) := by decide +kernel
theorem dJ6_numberOfTrailingZeros_0f7a4_8 : decode cJ6_numberOfTrailingZeros_0f7a4 8 = .ok (.iload_n 0, 1) := by decide +kernel
theorem dJ6_numberOfTrailingZeros_0f7a4_9 : decode cJ6_numberOfTrailingZeros_0f7a4 9 = .ok (.ifCond .gt 8, 3) := by decide +kernel
theorem dJ6_numberOfTrailingZeros_0f7a4_12 : decode cJ6_numberOfTrailingZeros_0f7a4 12 = .ok (.iload_n 0, 1) := by decide +kernel
theorem dJ6_numberOfTrailingZeros_0f7a4_13 : decode cJ6_numberOfTrailingZeros_0f7a4 13 = .ok (.bipush 32, 2) := by decide +kernel
theorem dJ6_numberOfTrailingZeros_0f7a4_15 : decode cJ6_numberOfTrailingZeros_0f7a4 15 = .ok (.iand, 1) := by decide +kernel
theorem dJ6_numberOfTrailingZeros_0f7a4_16 : decode cJ6_numberOfTrailingZeros_0f7a4 16 = .ok (.ireturn, 1) := by decide +kernel
theorem dJ6_numberOfTrailingZeros_0f7a4_17 : decode cJ6_numberOfTrailingZeros_0f7a4 17 = .ok (.iconst 1, 1) := by decide +kernel
theorem dJ6_numberOfTrailingZeros_0f7a4_18 : decode cJ6_numberOfTrailingZeros_0f7a4 18 = .ok (.istore_n 1, 1) := by decide +kernel
theorem dJ6_numberOfTrailingZeros_0f7a4_19 : decode cJ6_numberOfTrailingZeros_0f7a4 19 = .ok (.iload_n 0, 1) := by decide +kernel
theorem dJ6_numberOfTrailingZeros_0f7a4_20 : decode cJ6_numberOfTrailingZeros_0f7a4 20 = .ok (.ldc_w 264, 3) := by decide +kernel
theorem dJ6_numberOfTrailingZeros_0f7a4_23 : decode cJ6_numberOfTrailingZeros_0f7a4 23 = .ok (.if_icmp .le 11, 3) := by decide +kernel
theorem dJ6_numberOfTrailingZeros_0f7a4_26 : decode cJ6_numberOfTrailingZeros_0f7a4 26 = .ok (.iinc 1 16, 3) := by decide +kernel
theorem dJ6_numberOfTrailingZeros_0f7a4_29 : decode cJ6_numberOfTrailingZeros_0f7a4 29 = .ok (.iload_n 0, 1) := by decide +kernel
theorem dJ6_numberOfTrailingZeros_0f7a4_30 : decode cJ6_numberOfTrailingZeros_0f7a4 30 = .ok (.bipush 16, 2) := by decide +kernel
theorem dJ6_numberOfTrailingZeros_0f7a4_32 : decode cJ6_numberOfTrailingZeros_0f7a4 32 = .ok (.iushr, 1) := by decide +kernel
theorem dJ6_numberOfTrailingZeros_0f7a4_33 : decode cJ6_numberOfTrailingZeros_0f7a4 33 = .ok (.istore_n 0, 1) := by decide +kernel
theorem dJ6_numberOfTrailingZeros_0f7a4_34 : decode cJ6_numberOfTrailingZeros_0f7a4 34 = .ok (.iload_n 0, 1) := by decide +kernel
theorem dJ6_numberOfTrailingZeros_0f7a4_35 : decode cJ6_numberOfTrailingZeros_0f7a4 35 = .ok (.sipush 256, 3) := by decide +kernel
theorem dJ6_numberOfTrailingZeros_0f7a4_38 : decode cJ6_numberOfTrailingZeros_0f7a4 38 = .ok (.if_icmp .le 11, 3) := by decide +kernel
theorem dJ6_numberOfTrailingZeros_0f7a4_41 : decode cJ6_numberOfTrailingZeros_0f7a4 41 = .ok (.iinc 1 8, 3) := by decide +kernel
theorem dJ6_numberOfTrailingZeros_0f7a4_44 : decode cJ6_numberOfTrailingZeros_0f7a4 44 = .ok (.iload_n 0, 1) := by decide +kernel
theorem dJ6_numberOfTrailingZeros_0f7a4_45 : decode cJ6_numberOfTrailingZeros_0f7a4 45 = .ok (.bipush 8, 2) := by decide +kernel
theorem dJ6_numberOfTrailingZeros_0f7a4_47 : decode cJ6_numberOfTrailingZeros_0f7a4 47 = .ok (.iushr, 1) := by decide +kernel
theorem dJ6_numberOfTrailingZeros_0f7a4_48 : decode cJ6_numberOfTrailingZeros_0f7a4 48 = .ok (.istore_n 0, 1) := by decide +kernel
theorem dJ6_numberOfTrailingZeros_0f7a4_49 : decode cJ6_numberOfTrailingZeros_0f7a4 49 = .ok (.iload_n 0, 1) := by decide +kernel
theorem dJ6_numberOfTrailingZeros_0f7a4_50 : decode cJ6_numberOfTrailingZeros_0f7a4 50 = .ok (.bipush 16, 2) := by decide +kernel
theorem dJ6_numberOfTrailingZeros_0f7a4_52 : decode cJ6_numberOfTrailingZeros_0f7a4 52 = .ok (.if_icmp .le 10, 3) := by decide +kernel
theorem dJ6_numberOfTrailingZeros_0f7a4_55 : decode cJ6_numberOfTrailingZeros_0f7a4 55 = .ok (.iinc 1 4, 3) := by decide +kernel
theorem dJ6_numberOfTrailingZeros_0f7a4_58 : decode cJ6_numberOfTrailingZeros_0f7a4 58 = .ok (.iload_n 0, 1) := by decide +kernel
theorem dJ6_numberOfTrailingZeros_0f7a4_59 : decode cJ6_numberOfTrailingZeros_0f7a4 59 = .ok (.iconst 4, 1) := by decide +kernel
theorem dJ6_numberOfTrailingZeros_0f7a4_60 : decode cJ6_numberOfTrailingZeros_0f7a4 60 = .ok (.iushr, 1) := by decide +kernel
theorem dJ6_numberOfTrailingZeros_0f7a4_61 : decode cJ6_numberOfTrailingZeros_0f7a4 61 = .ok (.istore_n 0, 1) := by decide +kernel
theorem dJ6_numberOfTrailingZeros_0f7a4_62 : decode cJ6_numberOfTrailingZeros_0f7a4 62 = .ok (.iload_n 0, 1) := by decide +kernel
theorem dJ6_numberOfTrailingZeros_0f7a4_63 : decode cJ6_numberOfTrailingZeros_0f7a4 63 = .ok (.iconst 4, 1) := by decide +kernel
theorem dJ6_numberOfTrailingZeros_0f7a4_64 : decode cJ6_numberOfTrailingZeros_0f7a4 64 = .ok (.if_icmp .le 10, 3) := by decide +kernel
theorem dJ6_numberOfTrailingZeros_0f7a4_67 : decode cJ6_numberOfTrailingZeros_0f7a4 67 = .ok (.iinc 1 2, 3) := by decide +kernel
theorem dJ6_numberOfTrailingZeros_0f7a4_70 : decode cJ6_numberOfTrailingZeros_0f7a4 70 = .ok (.iload_n 0, 1) := by decide +kernel
theorem dJ6_numberOfTrailingZeros_0f7a4_71 : decode cJ6_numberOfTrailingZeros_0f7a4 71 = .ok (.iconst 2, 1) := by decide +kernel
theorem dJ6_numberOfTrailingZeros_0f7a4_72 : decode cJ6_numberOfTrailingZeros_0f7a4 72 = .ok (.iushr, 1) := by decide +kernel
theorem dJ6_numberOfTrailingZeros_0f7a4_73 : decode cJ6_numberOfTrailingZeros_0f7a4 73 = .ok (.istore_n 0, 1) := by decide +kernel
theorem dJ6_numberOfTrailingZeros_0f7a4_74 : decode cJ6_numberOfTrailingZeros_0f7a4 74 = .ok (.iload_n 1, 1) := by decide +kernel
theorem dJ6_numberOfTrailingZeros_0f7a4_75 : decode cJ6_numberOfTrailingZeros_0f7a4 75 = .ok (.iload_n 0, 1) := by decide +kernel
theorem dJ6_numberOfTrailingZeros_0f7a4_76 : decode cJ6_numberOfTrailingZeros_0f7a4 76 = .ok (.iconst 1, 1) := by decide +kernel
theorem dJ6_numberOfTrailingZeros_0f7a4_77 : decode cJ6_numberOfTrailingZeros_0f7a4 77 = .ok (.iushr, 1) := by decide +kernel
theorem dJ6_numberOfTrailingZeros_0f7a4_78 : decode cJ6_numberOfTrailingZeros_0f7a4 78 = .ok (.iadd, 1) := by decide +kernel
theorem dJ6_numberOfTrailingZeros_0f7a4_79 : decode cJ6_numberOfTrailingZeros_0f7a4 79 = .ok (.ireturn, 1) := by decide +kernel
theorem dJ6_bitCount_0f7a4_0 : decode cJ6_bitCount_0f7a4 0 = .ok (.iload_n 0, 1) := by decide +kernel
theorem dJ6_bitCount_0f7a4_1 : decode cJ6_bitCount_0f7a4 1 = .ok (.iload_n 0, 1) := by decide +kernel
theorem dJ6_bitCount_0f7a4_2 : decode cJ6_bitCount_0f7a4 2 = .ok (.iconst 1, 1) := by decide +kernel
theorem dJ6_bitCount_0f7a4_3 : decode cJ6_bitCount_0f7a4 3 = .ok (.iushr, 1) := by decide +kernel
theorem dJ6_bitCount_0f7a4_4 : decode cJ6_bitCount_0f7a4 4 = .ok (.ldc_w 265, 3) := by decide +kernel
theorem dJ6_bitCount_0f7a4_7 : decode cJ6_bitCount_0f7a4 7 = .ok (.iand, 1) := by decide +kernel
theorem dJ6_bitCount_0f7a4_8 : decode cJ6_bitCount_0f7a4 8 = .ok (.isub, 1) := by decide +kernel
theorem dJ6_bitCount_0f7a4_9 : decode cJ6_bitCount_0f7a4 9 = .ok (.istore_n 0, 1) := by decide +kernel
theorem dJ6_bitCount_0f7a4_10 : decode cJ6_bitCount_0f7a4 10 = .ok (.iload_n 0, 1) := by decide +kernel
theorem dJ6_bitCount_0f7a4_11 : decode cJ6_bitCount_0f7a4 11 = .ok (.ldc_w 266, 3) := by decide +kernel
theorem dJ6_bitCount_0f7a4_14 : decode cJ6_bitCount_0f7a4 14 = .ok (.iand, 1) := by decide +kernel
theorem dJ6_bitCount_0f7a4_15 : decode cJ6_bitCount_0f7a4 15 = .ok (.iload_n 0, 1) := by decide +kernel
theorem dJ6_bitCount_0f7a4_16 : decode cJ6_bitCount_0f7a4 16 = .ok (.iconst 2, 1) := by decide +kernel
theorem dJ6_bitCount_0f7a4_17 : decode cJ6_bitCount_0f7a4 17 = .ok (.iushr, 1) := by decide +kernel
theorem dJ6_bitCount_0f7a4_18 : decode cJ6_bitCount_0f7a4 18 = .ok (.ldc_w 266, 3) := by decide +kernel
theorem dJ6_bitCount_0f7a4_21 : decode cJ6_bitCount_0f7a4 21 = .ok (.iand, 1) := by decide +kernel
theorem dJ6_bitCount_0f7a4_22 : decode cJ6_bitCount_0f7a4 22 = .ok (.iadd, 1) := by decide +kernel
theorem dJ6_bitCount_0f7a4_23 : decode cJ6_bitCount_0f7a4 23 = .ok (.istore_n 0, 1) := by decide +kernel
theorem dJ6_bitCount_0f7a4_24 : decode cJ6_bitCount_0f7a4 24 = .ok (.iload_n 0, 1) := by decide +kernel
theorem dJ6_bitCount_0f7a4_25 : decode cJ6_bitCount_0f7a4 25 = .ok (.iload_n 0, 1) := by decide +kernel
theorem dJ6_bitCount_0f7a4_26 : decode cJ6_bitCount_0f7a4 26 = .ok (.iconst 4, 1) := by decide +kernel
theorem dJ6_bitCount_0f7a4_27 : decode cJ6_bitCount_0f7a4 27 = .ok (.iushr, 1) := by decide +kernel
theorem dJ6_bitCount_0f7a4_28 : decode cJ6_bitCount_0f7a4 28 = .ok (.iadd, 1) := by decide +kernel
theorem dJ6_bitCount_0f7a4_29 : decode cJ6_bitCount_0f7a4 29 = .ok (.ldc_w 267, 3) := by decide +kernel
theorem dJ6_bitCount_0f7a4_32 : decode cJ6_bitCount_0f7a4 32 = .ok (.iand, 1) := by decide +kernel
theorem dJ6_bitCount_0f7a4_33 : decode cJ6_bitCount_0f7a4 33 = .ok (.istore_n 0, 1) := by decide +kernel
theorem dJ6_bitCount_0f7a4_34 : decode cJ6_bitCount_0f7a4 34 = .ok (.iload_n 0, 1) := by decide +kernel
theorem dJ6_bitCount_0f7a4_35 : decode cJ6_bitCount_0f7a4 35 = .ok (.iload_n 0, 1) := by decide +kernel
theorem dJ6_bitCount_0f7a4_36 : decode cJ6_bitCount_0f7a4 36 = .ok (.bipush 8, 2) := by decide +kernel
theorem dJ6_bitCount_0f7a4_38 : decode cJ6_bitCount_0f7a4 38 = .ok (.iushr, 1) := by decide +kernel
theorem dJ6_bitCount_0f7a4_39 : decode cJ6_bitCount_0f7a4 39 = .ok (.iadd, 1) := by decide +kernel
theorem dJ6_bitCount_0f7a4_40 : decode cJ6_bitCount_0f7a4 40 = .ok (.istore_n 0, 1) := by decide +kernel
theorem dJ6_bitCount_0f7a4_41 : decode cJ6_bitCount_0f7a4 41 = .ok (.iload_n 0, 1) := by decide +kernel
theorem dJ6_bitCount_0f7a4_42 : decode cJ6_bitCount_0f7a4 42 = .ok (.iload_n 0, 1) := by decide +kernel
theorem dJ6_bitCount_0f7a4_43 : decode cJ6_bitCount_0f7a4 43 = .ok (.bipush 16, 2) := by decide +kernel
theorem dJ6_bitCount_0f7a4_45 : decode cJ6_bitCount_0f7a4 45 = .ok (.iushr, 1) := by decide +kernel
theorem dJ6_bitCount_0f7a4_46 : decode cJ6_bitCount_0f7a4 46 = .ok (.iadd, 1) := by decide +kernel
theorem dJ6_bitCount_0f7a4_47 : decode cJ6_bitCount_0f7a4 47 = .ok (.istore_n 0, 1) := by decide +kernel
theorem dJ6_bitCount_0f7a4_48 : decode cJ6_bitCount_0f7a4 48 = .ok (.iload_n 0, 1) := by decide +kernel
theorem dJ6_bitCount_0f7a4_49 : decode cJ6_bitCount_0f7a4 49 = .ok (.bipush 63, 2) := by decide +kernel
theorem dJ6_bitCount_0f7a4_51 : decode cJ6_bitCount_0f7a4 51 = .ok (.iand, 1) := by decide +kernel
theorem dJ6_bitCount_0f7a4_52 : decode cJ6_bitCount_0f7a4 52 = .ok (.ireturn, 1) := by decide +kernel
theorem dJ9_abs_0f7a4_0 : decode cJ9_abs_0f7a4 0 = .ok (.iload_n 0, 1) := by decide +kernel
theorem dJ9_abs_0f7a4_1 : decode cJ9_abs_0f7a4 1 = .ok (.ifCond .ge 8, 3) := by decide +kernel
theorem dJ9_abs_0f7a4_4 : decode cJ9_abs_0f7a4 4 = .ok (.iload_n 0, 1) := by decide +kernel
theorem dJ9_abs_0f7a4_5 : decode cJ9_abs_0f7a4 5 = .ok (.ineg, 1) := by decide +kernel
theorem dJ9_abs_0f7a4_6 : decode cJ9_abs_0f7a4 6 = .ok (.goto 4, 3) := by decide +kernel
theorem dJ9_abs_0f7a4_9 : decode cJ9_abs_0f7a4 9 = .ok (.iload_n 0, 1) := by decide +kernel
theorem dJ9_abs_0f7a4_10 : decode cJ9_abs_0f7a4 10 = .ok (.ireturn, 1) := by decide +kernel
theorem dJ9_max_7cf53_0 : decode cJ9_max_7cf53 0 = .ok (.iload_n 0, 1) := by decide +kernel
theorem dJ9_max_7cf53_1 : decode cJ9_max_7cf53 1 = .ok (.iload_n 1, 1) := by decide +kernel
theorem dJ9_max_7cf53_2 : decode cJ9_max_7cf53 2 = .ok (.if_icmp .lt 7, 3) := by decide +kernel
theorem dJ9_max_7cf53_5 : decode cJ9_max_7cf53 5 = .ok (.iload_n 0, 1) := by decide +kernel
theorem dJ9_max_7cf53_6 : decode cJ9_max_7cf53 6 = .ok (.goto 4, 3) := by decide +kernel
theorem dJ9_max_7cf53_9 : decode cJ9_max_7cf53 9 = .ok (.iload_n 1, 1) := by decide +kernel
theorem dJ9_max_7cf53_10 : decode cJ9_max_7cf53 10 = .ok (.ireturn, 1) := by decide +kernel
theorem dJ9_min_7cf53_0 : decode cJ9_min_7cf53 0 = .ok (.iload_n 0, 1) := by decide +kernel
theorem dJ9_min_7cf53_1 : decode cJ9_min_7cf53 1 = .ok (.iload_n 1, 1) := by decide +kernel
theorem dJ9_min_7cf53_2 : decode cJ9_min_7cf53 2 = .ok (.if_icmp .gt 7, 3) := by decide +kernel
theorem dJ9_min_7cf53_5 : decode cJ9_min_7cf53 5 = .ok (.iload_n 0, 1) := by decide +kernel
theorem dJ9_min_7cf53_6 : decode cJ9_min_7cf53 6 = .ok (.goto 4, 3) := by decide +kernel
theorem dJ9_min_7cf53_9 : decode cJ9_min_7cf53 9 = .ok (.iload_n 1, 1) := by decide +kernel
theorem dJ9_min_7cf53_10 : decode cJ9_min_7cf53 10 = .ok (.ireturn, 1) := by decide +kernel
