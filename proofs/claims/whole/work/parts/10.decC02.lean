theorem dX10_change_0 : decode cX10_change 0 = .ok (.aload_n 0, 1) := by decide +kernel
theorem dX10_change_1 : decode cX10_change 1 = .ok (.getfield 10, 3) := by decide +kernel
theorem dX10_change_4 : decode cX10_change 4 = .ok (.iload_n 1, 1) := by decide +kernel
theorem dX10_change_5 : decode cX10_change 5 = .ok (.invokevirtual 107, 3) := by decide +kernel
theorem dX10_change_8 : decode cX10_change 8 = .ok (.ifCond .ne 12, 3) := by decide +kernel
theorem dX10_change_11 : decode cX10_change 11 = .ok (.aload_n 0, 1) := by decide +kernel
theorem dX10_change_12 : decode cX10_change 12 = .ok (.iload_n 1, 1) := by decide +kernel
theorem dX10_change_13 : decode cX10_change 13 = .ok (.iload_n 2, 1) := by decide +kernel
theorem dX10_change_14 : decode cX10_change 14 = .ok (.invokevirtual 111, 3) := by decide +kernel
theorem dX10_change_17 : decode cX10_change 17 = .ok (.ifCond .eq 9, 3) := by decide +kernel
theorem dX10_change_20 : decode cX10_change 20 = .ok (.aload_n 0, 1) := by decide +kernel
theorem dX10_change_21 : decode cX10_change 21 = .ok (.iconst (-1), 1) := by decide +kernel
theorem dX10_change_22 : decode cX10_change 22 = .ok (.invokevirtual 115, 3) := by decide +kernel
theorem dX10_change_25 : decode cX10_change 25 = .ok (.ireturn, 1) := by decide +kernel
theorem dX10_change_26 : decode cX10_change 26 = .ok (.iload_n 3, 1) := by decide +kernel
theorem dX10_change_27 : decode cX10_change 27 = .ok (.ldc 118, 2) := by decide +kernel
theorem dX10_change_29 : decode cX10_change 29 = .ok (.if_icmp .ge 10, 3) := by decide +kernel
theorem dX10_change_32 : decode cX10_change 32 = .ok (.aload_n 0, 1) := by decide +kernel
theorem dX10_change_33 : decode cX10_change 33 = .ok (.bipush (-4), 2) := by decide +kernel
theorem dX10_change_35 : decode cX10_change 35 = .ok (.invokevirtual 115, 3) := by decide +kernel
theorem dX10_change_38 : decode cX10_change 38 = .ok (.ireturn, 1) := by decide +kernel
theorem dX10_change_39 : decode cX10_change 39 = .ok (.iload_n 3, 1) := by decide +kernel
theorem dX10_change_40 : decode cX10_change 40 = .ok (.ldc 119, 2) := by decide +kernel
theorem dX10_change_42 : decode cX10_change 42 = .ok (.if_icmp .le 10, 3) := by decide +kernel
theorem dX10_change_45 : decode cX10_change 45 = .ok (.aload_n 0, 1) := by decide +kernel
theorem dX10_change_46 : decode cX10_change 46 = .ok (.bipush (-6), 2) := by decide +kernel
theorem dX10_change_48 : decode cX10_change 48 = .ok (.invokevirtual 115, 3) := by decide +kernel
theorem dX10_change_51 : decode cX10_change 51 = .ok (.ireturn, 1) := by decide +kernel
theorem dX10_change_52 : decode cX10_change 52 = .ok (.aload_n 0, 1) := by decide +kernel
theorem dX10_change_53 : decode cX10_change 53 = .ok (.getfield 10, 3) := by decide +kernel
theorem dX10_change_56 : decode cX10_change 56 = .ok (.getfield 85, 3) := by decide +kernel
theorem dX10_change_59 : decode cX10_change 59 = .ok (.iload_n 1, 1) := by decide +kernel
theorem dX10_change_60 : decode cX10_change 60 = .ok (.aaload, 1) := by decide +kernel
theorem dX10_change_61 : decode cX10_change 61 = .ok (.getfield 120, 3) := by decide +kernel
theorem dX10_change_64 : decode cX10_change 64 = .ok (.astore 4, 2) := by decide +kernel
theorem dX10_change_66 : decode cX10_change 66 = .ok (.aload 4, 2) := by decide +kernel
theorem dX10_change_68 : decode cX10_change 68 = .ok (.iload_n 2, 1) := by decide +kernel
theorem dX10_change_69 : decode cX10_change 69 = .ok (.iaload, 1) := by decide +kernel
theorem dX10_change_70 : decode cX10_change 70 = .ok (.istore 5, 2) := by decide +kernel
theorem dX10_change_72 : decode cX10_change 72 = .ok (.aload 4, 2) := by decide +kernel
theorem dX10_change_74 : decode cX10_change 74 = .ok (.iload_n 2, 1) := by decide +kernel
theorem dX10_change_75 : decode cX10_change 75 = .ok (.iload_n 3, 1) := by decide +kernel
theorem dX10_change_76 : decode cX10_change 76 = .ok (.iastore, 1) := by decide +kernel
theorem dX10_change_77 : decode cX10_change 77 = .ok (.aload_n 0, 1) := by decide +kernel
theorem dX10_change_78 : decode cX10_change 78 = .ok (.getfield 54, 3) := by decide +kernel
theorem dX10_change_81 : decode cX10_change 81 = .ok (.iload_n 1, 1) := by decide +kernel
theorem dX10_change_82 : decode cX10_change 82 = .ok (.iload_n 2, 1) := by decide +kernel
theorem dX10_change_83 : decode cX10_change 83 = .ok (.iload 5, 2) := by decide +kernel
theorem dX10_change_85 : decode cX10_change 85 = .ok (.iconst 0, 1) := by decide +kernel
theorem dX10_change_86 : decode cX10_change 86 = .ok (.invokevirtual 125, 3) := by decide +kernel
theorem dX10_change_89 : decode cX10_change 89 = .ok (.iload 5, 2) := by decide +kernel
theorem dX10_change_91 : decode cX10_change 91 = .ok (.ireturn, 1) := by decide +kernel
theorem dX10_turn_0 : decode cX10_turn 0 = .ok (.aload_n 0, 1) := by decide +kernel
theorem dX10_turn_1 : decode cX10_turn 1 = .ok (.getfield 10, 3) := by decide +kernel
theorem dX10_turn_4 : decode cX10_turn 4 = .ok (.iload_n 1, 1) := by decide +kernel
theorem dX10_turn_5 : decode cX10_turn 5 = .ok (.invokevirtual 107, 3) := by decide +kernel
theorem dX10_turn_8 : decode cX10_turn 8 = .ok (.ifCond .eq 9, 3) := by decide +kernel
theorem dX10_turn_11 : decode cX10_turn 11 = .ok (.aload_n 0, 1) := by decide +kernel
theorem dX10_turn_12 : decode cX10_turn 12 = .ok (.iconst (-1), 1) := by decide +kernel
theorem dX10_turn_13 : decode cX10_turn 13 = .ok (.invokevirtual 69, 3) := by decide +kernel
theorem dX10_turn_16 : decode cX10_turn 16 = .ok (.ireturn, 1) := by decide +kernel
theorem dX10_turn_17 : decode cX10_turn 17 = .ok (.iload_n 2, 1) := by decide +kernel
theorem dX10_turn_18 : decode cX10_turn 18 = .ok (.bipush 6, 2) := by decide +kernel
theorem dX10_turn_20 : decode cX10_turn 20 = .ok (.invokestatic 128, 3) := by decide +kernel
theorem dX10_turn_23 : decode cX10_turn 23 = .ok (.ifCond .eq 10, 3) := by decide +kernel
theorem dX10_turn_26 : decode cX10_turn 26 = .ok (.aload_n 0, 1) := by decide +kernel
theorem dX10_turn_27 : decode cX10_turn 27 = .ok (.bipush (-2), 2) := by decide +kernel
theorem dX10_turn_29 : decode cX10_turn 29 = .ok (.invokevirtual 69, 3) := by decide +kernel
theorem dX10_turn_32 : decode cX10_turn 32 = .ok (.ireturn, 1) := by decide +kernel
theorem dX10_turn_33 : decode cX10_turn 33 = .ok (.iload_n 3, 1) := by decide +kernel
theorem dX10_turn_34 : decode cX10_turn 34 = .ok (.ifCond .ge 10, 3) := by decide +kernel
theorem dX10_turn_37 : decode cX10_turn 37 = .ok (.aload_n 0, 1) := by decide +kernel
theorem dX10_turn_38 : decode cX10_turn 38 = .ok (.bipush (-4), 2) := by decide +kernel
theorem dX10_turn_40 : decode cX10_turn 40 = .ok (.invokevirtual 69, 3) := by decide +kernel
theorem dX10_turn_43 : decode cX10_turn 43 = .ok (.ireturn, 1) := by decide +kernel
theorem dX10_turn_44 : decode cX10_turn 44 = .ok (.iload_n 3, 1) := by decide +kernel
theorem dX10_turn_45 : decode cX10_turn 45 = .ok (.bipush 9, 2) := by decide +kernel
theorem dX10_turn_47 : decode cX10_turn 47 = .ok (.if_icmp .le 10, 3) := by decide +kernel
theorem dX10_turn_50 : decode cX10_turn 50 = .ok (.aload_n 0, 1) := by decide +kernel
theorem dX10_turn_51 : decode cX10_turn 51 = .ok (.bipush (-6), 2) := by decide +kernel
theorem dX10_turn_53 : decode cX10_turn 53 = .ok (.invokevirtual 69, 3) := by decide +kernel
theorem dX10_turn_56 : decode cX10_turn 56 = .ok (.ireturn, 1) := by decide +kernel
theorem dX10_turn_57 : decode cX10_turn 57 = .ok (.aload_n 0, 1) := by decide +kernel
theorem dX10_turn_58 : decode cX10_turn 58 = .ok (.getfield 10, 3) := by decide +kernel
theorem dX10_turn_61 : decode cX10_turn 61 = .ok (.getfield 85, 3) := by decide +kernel
theorem dX10_turn_64 : decode cX10_turn 64 = .ok (.iload_n 1, 1) := by decide +kernel
theorem dX10_turn_65 : decode cX10_turn 65 = .ok (.aaload, 1) := by decide +kernel
theorem dX10_turn_66 : decode cX10_turn 66 = .ok (.astore 4, 2) := by decide +kernel
theorem dX10_turn_68 : decode cX10_turn 68 = .ok (.aload_n 0, 1) := by decide +kernel
theorem dX10_turn_69 : decode cX10_turn 69 = .ok (.getfield 54, 3) := by decide +kernel
theorem dX10_turn_72 : decode cX10_turn 72 = .ok (.iload_n 1, 1) := by decide +kernel
theorem dX10_turn_73 : decode cX10_turn 73 = .ok (.iconst (-1), 1) := by decide +kernel
theorem dX10_turn_74 : decode cX10_turn 74 = .ok (.aload 4, 2) := by decide +kernel
theorem dX10_turn_76 : decode cX10_turn 76 = .ok (.getfield 131, 3) := by decide +kernel
theorem dX10_turn_79 : decode cX10_turn 79 = .ok (.aload 4, 2) := by decide +kernel
theorem dX10_turn_81 : decode cX10_turn 81 = .ok (.getfield 134, 3) := by decide +kernel
theorem dX10_turn_84 : decode cX10_turn 84 = .ok (.invokevirtual 125, 3) := by decide +kernel
theorem dX10_turn_87 : decode cX10_turn 87 = .ok (.bipush 10, 2) := by decide +kernel
theorem dX10_turn_89 : decode cX10_turn 89 = .ok (.aload 4, 2) := by decide +kernel
theorem dX10_turn_91 : decode cX10_turn 91 = .ok (.getfield 131, 3) := by decide +kernel
theorem dX10_turn_94 : decode cX10_turn 94 = .ok (.imul, 1) := by decide +kernel
theorem dX10_turn_95 : decode cX10_turn 95 = .ok (.aload 4, 2) := by decide +kernel
theorem dX10_turn_97 : decode cX10_turn 97 = .ok (.getfield 134, 3) := by decide +kernel
theorem dX10_turn_100 : decode cX10_turn 100 = .ok (.iadd, 1) := by decide +kernel
theorem dX10_turn_101 : decode cX10_turn 101 = .ok (.istore 5, 2) := by decide +kernel
theorem dX10_turn_103 : decode cX10_turn 103 = .ok (.aload 4, 2) := by decide +kernel
theorem dX10_turn_105 : decode cX10_turn 105 = .ok (.iload_n 2, 1) := by decide +kernel
theorem dX10_turn_106 : decode cX10_turn 106 = .ok (.putfield 131, 3) := by decide +kernel
theorem dX10_turn_109 : decode cX10_turn 109 = .ok (.aload 4, 2) := by decide +kernel
theorem dX10_turn_111 : decode cX10_turn 111 = .ok (.iload_n 3, 1) := by decide +kernel
theorem dX10_turn_112 : decode cX10_turn 112 = .ok (.putfield 134, 3) := by decide +kernel
theorem dX10_turn_115 : decode cX10_turn 115 = .ok (.iload 5, 2) := by decide +kernel
theorem dX10_turn_117 : decode cX10_turn 117 = .ok (.ireturn, 1) := by decide +kernel
theorem dX10_of_0 : decode cX10_of 0 = .ok (.aload_n 0, 1) := by decide +kernel
theorem dX10_of_1 : decode cX10_of 1 = .ok (.getfield 10, 3) := by decide +kernel
theorem dX10_of_4 : decode cX10_of 4 = .ok (.iload_n 1, 1) := by decide +kernel
theorem dX10_of_5 : decode cX10_of 5 = .ok (.invokevirtual 107, 3) := by decide +kernel
theorem dX10_of_8 : decode cX10_of 8 = .ok (.ifCond .eq 9, 3) := by decide +kernel
theorem dX10_of_11 : decode cX10_of 11 = .ok (.aload_n 0, 1) := by decide +kernel
theorem dX10_of_12 : decode cX10_of 12 = .ok (.iconst (-1), 1) := by decide +kernel
theorem dX10_of_13 : decode cX10_of 13 = .ok (.invokevirtual 69, 3) := by decide +kernel
theorem dX10_of_16 : decode cX10_of 16 = .ok (.ireturn, 1) := by decide +kernel
theorem dX10_of_17 : decode cX10_of 17 = .ok (.iload_n 2, 1) := by decide +kernel
theorem dX10_of_18 : decode cX10_of 18 = .ok (.bipush 6, 2) := by decide +kernel
theorem dX10_of_20 : decode cX10_of 20 = .ok (.invokestatic 128, 3) := by decide +kernel
theorem dX10_of_23 : decode cX10_of 23 = .ok (.ifCond .eq 10, 3) := by decide +kernel
theorem dX10_of_26 : decode cX10_of 26 = .ok (.aload_n 0, 1) := by decide +kernel
theorem dX10_of_27 : decode cX10_of 27 = .ok (.bipush (-2), 2) := by decide +kernel
theorem dX10_of_29 : decode cX10_of 29 = .ok (.invokevirtual 69, 3) := by decide +kernel
theorem dX10_of_32 : decode cX10_of 32 = .ok (.ireturn, 1) := by decide +kernel
theorem dX10_of_33 : decode cX10_of 33 = .ok (.aload_n 0, 1) := by decide +kernel
theorem dX10_of_34 : decode cX10_of 34 = .ok (.getfield 10, 3) := by decide +kernel
theorem dX10_of_37 : decode cX10_of 37 = .ok (.getfield 85, 3) := by decide +kernel
theorem dX10_of_40 : decode cX10_of 40 = .ok (.iload_n 1, 1) := by decide +kernel
theorem dX10_of_41 : decode cX10_of 41 = .ok (.aaload, 1) := by decide +kernel
theorem dX10_of_42 : decode cX10_of 42 = .ok (.astore_n 3, 1) := by decide +kernel
theorem dX10_of_43 : decode cX10_of 43 = .ok (.iload_n 2, 1) := by decide +kernel
theorem dX10_of_44 : decode cX10_of 44 = .ok (.tableswitch 65 0 4 #[36, 41, 46, 51, 59], 36) := by decide +kernel
theorem dX10_of_80 : decode cX10_of 80 = .ok (.aload_n 3, 1) := by decide +kernel
theorem dX10_of_81 : decode cX10_of 81 = .ok (.getfield 131, 3) := by decide +kernel
theorem dX10_of_84 : decode cX10_of 84 = .ok (.ireturn, 1) := by decide +kernel
theorem dX10_of_85 : decode cX10_of 85 = .ok (.aload_n 3, 1) := by decide +kernel
theorem dX10_of_86 : decode cX10_of 86 = .ok (.getfield 134, 3) := by decide +kernel
theorem dX10_of_89 : decode cX10_of 89 = .ok (.ireturn, 1) := by decide +kernel
theorem dX10_of_90 : decode cX10_of 90 = .ok (.aload_n 3, 1) := by decide +kernel
theorem dX10_of_91 : decode cX10_of 91 = .ok (.getfield 137, 3) := by decide +kernel
theorem dX10_of_94 : decode cX10_of 94 = .ok (.ireturn, 1) := by decide +kernel
theorem dX10_of_95 : decode cX10_of 95 = .ok (.aload_n 3, 1) := by decide +kernel
theorem dX10_of_96 : decode cX10_of 96 = .ok (.getfield 137, 3) := by decide +kernel
theorem dX10_of_99 : decode cX10_of 99 = .ok (.invokestatic 140, 3) := by decide +kernel
theorem dX10_of_102 : decode cX10_of 102 = .ok (.ireturn, 1) := by decide +kernel
theorem dX10_of_103 : decode cX10_of 103 = .ok (.aload_n 3, 1) := by decide +kernel
theorem dX10_of_104 : decode cX10_of 104 = .ok (.iconst 0, 1) := by decide +kernel
theorem dX10_of_105 : decode cX10_of 105 = .ok (.invokevirtual 143, 3) := by decide +kernel
theorem dX10_of_108 : decode cX10_of 108 = .ok (.ireturn, 1) := by decide +kernel
theorem dX10_of_109 : decode cX10_of 109 = .ok (.aload_n 3, 1) := by decide +kernel
theorem dX10_of_110 : decode cX10_of 110 = .ok (.iconst 1, 1) := by decide +kernel
theorem dX10_of_111 : decode cX10_of 111 = .ok (.invokevirtual 143, 3) := by decide +kernel
theorem dX10_of_114 : decode cX10_of 114 = .ok (.ireturn, 1) := by decide +kernel
theorem dX10_isUnder_0 : decode cX10_isUnder 0 = .ok (.iload_n 0, 1) := by decide +kernel
theorem dX10_isUnder_1 : decode cX10_isUnder 1 = .ok (.istore_n 2, 1) := by decide +kernel
theorem dX10_isUnder_2 : decode cX10_isUnder 2 = .ok (.iconst 0, 1) := by decide +kernel
theorem dX10_isUnder_3 : decode cX10_isUnder 3 = .ok (.istore_n 3, 1) := by decide +kernel
theorem dX10_isUnder_4 : decode cX10_isUnder 4 = .ok (.iload_n 3, 1) := by decide +kernel
theorem dX10_isUnder_5 : decode cX10_isUnder 5 = .ok (.bipush 6, 2) := by decide +kernel
theorem dX10_isUnder_7 : decode cX10_isUnder 7 = .ok (.if_icmp .ge 33, 3) := by decide +kernel
theorem dX10_isUnder_10 : decode cX10_isUnder 10 = .ok (.iload_n 2, 1) := by decide +kernel
theorem dX10_isUnder_11 : decode cX10_isUnder 11 = .ok (.iload_n 1, 1) := by decide +kernel
theorem dX10_isUnder_12 : decode cX10_isUnder 12 = .ok (.if_icmp .ne 5, 3) := by decide +kernel
theorem dX10_isUnder_15 : decode cX10_isUnder 15 = .ok (.iconst 1, 1) := by decide +kernel
theorem dX10_isUnder_16 : decode cX10_isUnder 16 = .ok (.ireturn, 1) := by decide +kernel
theorem dX10_isUnder_17 : decode cX10_isUnder 17 = .ok (.iload_n 2, 1) := by decide +kernel
theorem dX10_isUnder_18 : decode cX10_isUnder 18 = .ok (.bipush 6, 2) := by decide +kernel
theorem dX10_isUnder_20 : decode cX10_isUnder 20 = .ok (.invokestatic 128, 3) := by decide +kernel
theorem dX10_isUnder_23 : decode cX10_isUnder 23 = .ok (.ifCond .eq 5, 3) := by decide +kernel
theorem dX10_isUnder_26 : decode cX10_isUnder 26 = .ok (.iconst 0, 1) := by decide +kernel
theorem dX10_isUnder_27 : decode cX10_isUnder 27 = .ok (.ireturn, 1) := by decide +kernel
theorem dX10_isUnder_28 : decode cX10_isUnder 28 = .ok (.getstatic 313, 3) := by decide +kernel
theorem dX10_isUnder_31 : decode cX10_isUnder 31 = .ok (.iload_n 2, 1) := by decide +kernel
theorem dX10_isUnder_32 : decode cX10_isUnder 32 = .ok (.iaload, 1) := by decide +kernel
theorem dX10_isUnder_33 : decode cX10_isUnder 33 = .ok (.istore_n 2, 1) := by decide +kernel
theorem dX10_isUnder_34 : decode cX10_isUnder 34 = .ok (.iinc 3 1, 3) := by decide +kernel
theorem dX10_isUnder_37 : decode cX10_isUnder 37 = .ok (.goto (-33), 3) := by decide +kernel
theorem dX10_isUnder_40 : decode cX10_isUnder 40 = .ok (.iconst 0, 1) := by decide +kernel
theorem dX10_isUnder_41 : decode cX10_isUnder 41 = .ok (.ireturn, 1) := by decide +kernel
theorem dX10_taken_0 : decode cX10_taken 0 = .ok (.aload_n 0, 1) := by decide +kernel
theorem dX10_taken_1 : decode cX10_taken 1 = .ok (.getfield 10, 3) := by decide +kernel
theorem dX10_taken_4 : decode cX10_taken 4 = .ok (.iload_n 1, 1) := by decide +kernel
theorem dX10_taken_5 : decode cX10_taken 5 = .ok (.invokevirtual 107, 3) := by decide +kernel
theorem dX10_taken_8 : decode cX10_taken 8 = .ok (.ifCond .eq 9, 3) := by decide +kernel
theorem dX10_taken_11 : decode cX10_taken 11 = .ok (.aload_n 0, 1) := by decide +kernel
theorem dX10_taken_12 : decode cX10_taken 12 = .ok (.iconst (-1), 1) := by decide +kernel
theorem dX10_taken_13 : decode cX10_taken 13 = .ok (.invokevirtual 69, 3) := by decide +kernel
theorem dX10_taken_16 : decode cX10_taken 16 = .ok (.ireturn, 1) := by decide +kernel
theorem dX10_taken_17 : decode cX10_taken 17 = .ok (.iload_n 2, 1) := by decide +kernel
theorem dX10_taken_18 : decode cX10_taken 18 = .ok (.bipush 6, 2) := by decide +kernel
theorem dX10_taken_20 : decode cX10_taken 20 = .ok (.invokestatic 128, 3) := by decide +kernel
theorem dX10_taken_23 : decode cX10_taken 23 = .ok (.ifCond .eq 10, 3) := by decide +kernel
theorem dX10_taken_26 : decode cX10_taken 26 = .ok (.aload_n 0, 1) := by decide +kernel
theorem dX10_taken_27 : decode cX10_taken 27 = .ok (.bipush (-2), 2) := by decide +kernel
theorem dX10_taken_29 : decode cX10_taken 29 = .ok (.invokevirtual 69, 3) := by decide +kernel
theorem dX10_taken_32 : decode cX10_taken 32 = .ok (.ireturn, 1) := by decide +kernel
theorem dX10_taken_33 : decode cX10_taken 33 = .ok (.aload_n 0, 1) := by decide +kernel
theorem dX10_taken_34 : decode cX10_taken 34 = .ok (.getfield 10, 3) := by decide +kernel
theorem dX10_taken_37 : decode cX10_taken 37 = .ok (.getfield 85, 3) := by decide +kernel
theorem dX10_taken_40 : decode cX10_taken 40 = .ok (.iload_n 1, 1) := by decide +kernel
theorem dX10_taken_41 : decode cX10_taken 41 = .ok (.aaload, 1) := by decide +kernel
theorem dX10_taken_42 : decode cX10_taken 42 = .ok (.getfield 131, 3) := by decide +kernel
theorem dX10_taken_45 : decode cX10_taken 45 = .ok (.istore_n 3, 1) := by decide +kernel
theorem dX10_taken_46 : decode cX10_taken 46 = .ok (.iload_n 3, 1) := by decide +kernel
theorem dX10_taken_47 : decode cX10_taken 47 = .ok (.iload_n 2, 1) := by decide +kernel
theorem dX10_taken_48 : decode cX10_taken 48 = .ok (.invokestatic 146, 3) := by decide +kernel
theorem dX10_taken_51 : decode cX10_taken 51 = .ok (.ifCond .eq 7, 3) := by decide +kernel
theorem dX10_taken_54 : decode cX10_taken 54 = .ok (.iload_n 3, 1) := by decide +kernel
theorem dX10_taken_55 : decode cX10_taken 55 = .ok (.goto 5, 3) := by decide +kernel
theorem dX10_taken_58 : decode cX10_taken 58 = .ok (.bipush (-16), 2) := by decide +kernel
theorem dX10_taken_60 : decode cX10_taken 60 = .ok (.ireturn, 1) := by decide +kernel
theorem dX10_coefficient_0 : decode cX10_coefficient 0 = .ok (.aload_n 0, 1) := by decide +kernel
theorem dX10_coefficient_1 : decode cX10_coefficient 1 = .ok (.getfield 10, 3) := by decide +kernel
theorem dX10_coefficient_4 : decode cX10_coefficient 4 = .ok (.iload_n 1, 1) := by decide +kernel
theorem dX10_coefficient_5 : decode cX10_coefficient 5 = .ok (.invokevirtual 107, 3) := by decide +kernel
theorem dX10_coefficient_8 : decode cX10_coefficient 8 = .ok (.ifCond .ne 12, 3) := by decide +kernel
theorem dX10_coefficient_11 : decode cX10_coefficient 11 = .ok (.aload_n 0, 1) := by decide +kernel
theorem dX10_coefficient_12 : decode cX10_coefficient 12 = .ok (.iload_n 1, 1) := by decide +kernel
theorem dX10_coefficient_13 : decode cX10_coefficient 13 = .ok (.iload_n 2, 1) := by decide +kernel
theorem dX10_coefficient_14 : decode cX10_coefficient 14 = .ok (.invokevirtual 111, 3) := by decide +kernel
theorem dX10_coefficient_17 : decode cX10_coefficient 17 = .ok (.ifCond .eq 9, 3) := by decide +kernel
theorem dX10_coefficient_20 : decode cX10_coefficient 20 = .ok (.aload_n 0, 1) := by decide +kernel
theorem dX10_coefficient_21 : decode cX10_coefficient 21 = .ok (.iconst (-1), 1) := by decide +kernel
theorem dX10_coefficient_22 : decode cX10_coefficient 22 = .ok (.invokevirtual 115, 3) := by decide +kernel
theorem dX10_coefficient_25 : decode cX10_coefficient 25 = .ok (.ireturn, 1) := by decide +kernel
theorem dX10_coefficient_26 : decode cX10_coefficient 26 = .ok (.aload_n 0, 1) := by decide +kernel
theorem dX10_coefficient_27 : decode cX10_coefficient 27 = .ok (.getfield 10, 3) := by decide +kernel
theorem dX10_coefficient_30 : decode cX10_coefficient 30 = .ok (.getfield 85, 3) := by decide +kernel
theorem dX10_coefficient_33 : decode cX10_coefficient 33 = .ok (.iload_n 1, 1) := by decide +kernel
theorem dX10_coefficient_34 : decode cX10_coefficient 34 = .ok (.aaload, 1) := by decide +kernel
theorem dX10_coefficient_35 : decode cX10_coefficient 35 = .ok (.iload_n 2, 1) := by decide +kernel
theorem dX10_coefficient_36 : decode cX10_coefficient 36 = .ok (.invokevirtual 149, 3) := by decide +kernel
theorem dX10_coefficient_39 : decode cX10_coefficient 39 = .ok (.ireturn, 1) := by decide +kernel
theorem dX10_refuseFar_0 : decode cX10_refuseFar 0 = .ok (.ldc2_w 301, 3) := by decide +kernel
theorem dX10_refuseFar_3 : decode cX10_refuseFar 3 = .ok (.aload_n 0, 1) := by decide +kernel
theorem dX10_refuseFar_4 : decode cX10_refuseFar 4 = .ok (.iload_n 1, 1) := by decide +kernel
theorem dX10_refuseFar_5 : decode cX10_refuseFar 5 = .ok (.invokevirtual 69, 3) := by decide +kernel
theorem dX10_refuseFar_8 : decode cX10_refuseFar 8 = .ok (.i2l, 1) := by decide +kernel
theorem dX10_refuseFar_9 : decode cX10_refuseFar 9 = .ok (.lsub, 1) := by decide +kernel
theorem dX10_refuseFar_10 : decode cX10_refuseFar 10 = .ok (.lreturn, 1) := by decide +kernel
theorem dX10_workOn_0 : decode cX10_workOn 0 = .ok (.aload_n 0, 1) := by decide +kernel
theorem dX10_workOn_1 : decode cX10_workOn 1 = .ok (.getfield 10, 3) := by decide +kernel
theorem dX10_workOn_4 : decode cX10_workOn 4 = .ok (.getfield 303, 3) := by decide +kernel
theorem dX10_workOn_7 : decode cX10_workOn 7 = .ok (.aload_n 0, 1) := by decide +kernel
theorem dX10_workOn_8 : decode cX10_workOn 8 = .ok (.getfield 10, 3) := by decide +kernel
theorem dX10_workOn_11 : decode cX10_workOn 11 = .ok (.getfield 85, 3) := by decide +kernel
theorem dX10_workOn_14 : decode cX10_workOn 14 = .ok (.iload_n 1, 1) := by decide +kernel
theorem dX10_workOn_15 : decode cX10_workOn 15 = .ok (.aaload, 1) := by decide +kernel
theorem dX10_workOn_16 : decode cX10_workOn 16 = .ok (.iload_n 2, 1) := by decide +kernel
theorem dX10_workOn_17 : decode cX10_workOn 17 = .ok (.invokevirtual 307, 3) := by decide +kernel
theorem dX10_workOn_20 : decode cX10_workOn 20 = .ok (.aload_n 0, 1) := by decide +kernel
theorem dX10_workOn_21 : decode cX10_workOn 21 = .ok (.getfield 10, 3) := by decide +kernel
theorem dX10_workOn_24 : decode cX10_workOn 24 = .ok (.getfield 303, 3) := by decide +kernel
theorem dX10_workOn_27 : decode cX10_workOn 27 = .ok (.areturn, 1) := by decide +kernel
theorem dX10_value_0 : decode cX10_value 0 = .ok (.aload_n 0, 1) := by decide +kernel
theorem dX10_value_1 : decode cX10_value 1 = .ok (.getfield 10, 3) := by decide +kernel
theorem dX10_value_4 : decode cX10_value 4 = .ok (.iload_n 1, 1) := by decide +kernel
theorem dX10_value_5 : decode cX10_value 5 = .ok (.invokevirtual 107, 3) := by decide +kernel
theorem dX10_value_8 : decode cX10_value 8 = .ok (.ifCond .eq 9, 3) := by decide +kernel
theorem dX10_value_11 : decode cX10_value 11 = .ok (.aload_n 0, 1) := by decide +kernel
theorem dX10_value_12 : decode cX10_value 12 = .ok (.iconst (-1), 1) := by decide +kernel
theorem dX10_value_13 : decode cX10_value 13 = .ok (.invokevirtual 152, 3) := by decide +kernel
theorem dX10_value_16 : decode cX10_value 16 = .ok (.lreturn, 1) := by decide +kernel
theorem dX10_value_17 : decode cX10_value 17 = .ok (.iload_n 2, 1) := by decide +kernel
theorem dX10_value_18 : decode cX10_value 18 = .ok (.ifCond .lt 12, 3) := by decide +kernel
theorem dX10_value_21 : decode cX10_value 21 = .ok (.iload_n 3, 1) := by decide +kernel
theorem dX10_value_22 : decode cX10_value 22 = .ok (.ifCond .lt 8, 3) := by decide +kernel
theorem dX10_value_25 : decode cX10_value 25 = .ok (.iload 4, 2) := by decide +kernel
theorem dX10_value_27 : decode cX10_value 27 = .ok (.ifCond .ge 10, 3) := by decide +kernel
theorem dX10_value_30 : decode cX10_value 30 = .ok (.aload_n 0, 1) := by decide +kernel
theorem dX10_value_31 : decode cX10_value 31 = .ok (.bipush (-4), 2) := by decide +kernel
theorem dX10_value_33 : decode cX10_value 33 = .ok (.invokevirtual 152, 3) := by decide +kernel
theorem dX10_value_36 : decode cX10_value 36 = .ok (.lreturn, 1) := by decide +kernel
theorem dX10_value_37 : decode cX10_value 37 = .ok (.iload_n 2, 1) := by decide +kernel
theorem dX10_value_38 : decode cX10_value 38 = .ok (.bipush 12, 2) := by decide +kernel
theorem dX10_value_40 : decode cX10_value 40 = .ok (.if_icmp .gt 16, 3) := by decide +kernel
theorem dX10_value_43 : decode cX10_value 43 = .ok (.iload_n 3, 1) := by decide +kernel
theorem dX10_value_44 : decode cX10_value 44 = .ok (.bipush 12, 2) := by decide +kernel
theorem dX10_value_46 : decode cX10_value 46 = .ok (.if_icmp .gt 10, 3) := by decide +kernel
theorem dX10_value_49 : decode cX10_value 49 = .ok (.iload 4, 2) := by decide +kernel
theorem dX10_value_51 : decode cX10_value 51 = .ok (.bipush 12, 2) := by decide +kernel
theorem dX10_value_53 : decode cX10_value 53 = .ok (.if_icmp .le 10, 3) := by decide +kernel
theorem dX10_value_56 : decode cX10_value 56 = .ok (.aload_n 0, 1) := by decide +kernel
theorem dX10_value_57 : decode cX10_value 57 = .ok (.bipush (-6), 2) := by decide +kernel
theorem dX10_value_59 : decode cX10_value 59 = .ok (.invokevirtual 152, 3) := by decide +kernel
theorem dX10_value_62 : decode cX10_value 62 = .ok (.lreturn, 1) := by decide +kernel
theorem dX10_value_63 : decode cX10_value 63 = .ok (.aload_n 0, 1) := by decide +kernel
theorem dX10_value_64 : decode cX10_value 64 = .ok (.iload_n 1, 1) := by decide +kernel
theorem dX10_value_65 : decode cX10_value 65 = .ok (.bipush 7, 2) := by decide +kernel
theorem dX10_value_67 : decode cX10_value 67 = .ok (.invokevirtual 156, 3) := by decide +kernel
theorem dX10_value_70 : decode cX10_value 70 = .ok (.iload_n 2, 1) := by decide +kernel
theorem dX10_value_71 : decode cX10_value 71 = .ok (.iload_n 3, 1) := by decide +kernel
theorem dX10_value_72 : decode cX10_value 72 = .ok (.iload 4, 2) := by decide +kernel
theorem dX10_value_74 : decode cX10_value 74 = .ok (.invokevirtual 160, 3) := by decide +kernel
theorem dX10_value_77 : decode cX10_value 77 = .ok (.lreturn, 1) := by decide +kernel
theorem dX10_lifted_0 : decode cX10_lifted 0 = .ok (.aload_n 0, 1) := by decide +kernel
theorem dX10_lifted_1 : decode cX10_lifted 1 = .ok (.getfield 10, 3) := by decide +kernel
theorem dX10_lifted_4 : decode cX10_lifted 4 = .ok (.iload_n 1, 1) := by decide +kernel
theorem dX10_lifted_5 : decode cX10_lifted 5 = .ok (.invokevirtual 107, 3) := by decide +kernel
theorem dX10_lifted_8 : decode cX10_lifted 8 = .ok (.ifCond .ne 10, 3) := by decide +kernel
theorem dX10_lifted_11 : decode cX10_lifted 11 = .ok (.iload_n 2, 1) := by decide +kernel
theorem dX10_lifted_12 : decode cX10_lifted 12 = .ok (.invokestatic 166, 3) := by decide +kernel
theorem dX10_lifted_15 : decode cX10_lifted 15 = .ok (.ifCond .ne 9, 3) := by decide +kernel
theorem dX10_lifted_18 : decode cX10_lifted 18 = .ok (.aload_n 0, 1) := by decide +kernel
theorem dX10_lifted_19 : decode cX10_lifted 19 = .ok (.iconst (-1), 1) := by decide +kernel
theorem dX10_lifted_20 : decode cX10_lifted 20 = .ok (.invokevirtual 152, 3) := by decide +kernel
theorem dX10_lifted_23 : decode cX10_lifted 23 = .ok (.lreturn, 1) := by decide +kernel
theorem dX10_lifted_24 : decode cX10_lifted 24 = .ok (.iload_n 3, 1) := by decide +kernel
theorem dX10_lifted_25 : decode cX10_lifted 25 = .ok (.ifCond .ge 10, 3) := by decide +kernel
theorem dX10_lifted_28 : decode cX10_lifted 28 = .ok (.aload_n 0, 1) := by decide +kernel
theorem dX10_lifted_29 : decode cX10_lifted 29 = .ok (.bipush (-4), 2) := by decide +kernel
theorem dX10_lifted_31 : decode cX10_lifted 31 = .ok (.invokevirtual 152, 3) := by decide +kernel
theorem dX10_lifted_34 : decode cX10_lifted 34 = .ok (.lreturn, 1) := by decide +kernel
theorem dX10_lifted_35 : decode cX10_lifted 35 = .ok (.iload_n 3, 1) := by decide +kernel
theorem dX10_lifted_36 : decode cX10_lifted 36 = .ok (.bipush 12, 2) := by decide +kernel
theorem dX10_lifted_38 : decode cX10_lifted 38 = .ok (.if_icmp .le 10, 3) := by decide +kernel
theorem dX10_lifted_41 : decode cX10_lifted 41 = .ok (.aload_n 0, 1) := by decide +kernel
theorem dX10_lifted_42 : decode cX10_lifted 42 = .ok (.bipush (-6), 2) := by decide +kernel
theorem dX10_lifted_44 : decode cX10_lifted 44 = .ok (.invokevirtual 152, 3) := by decide +kernel
theorem dX10_lifted_47 : decode cX10_lifted 47 = .ok (.lreturn, 1) := by decide +kernel
theorem dX10_lifted_48 : decode cX10_lifted 48 = .ok (.iload 4, 2) := by decide +kernel
theorem dX10_lifted_50 : decode cX10_lifted 50 = .ok (.iload_n 2, 1) := by decide +kernel
theorem dX10_lifted_51 : decode cX10_lifted 51 = .ok (.aload_n 0, 1) := by decide +kernel
theorem dX10_lifted_52 : decode cX10_lifted 52 = .ok (.getfield 10, 3) := by decide +kernel
theorem dX10_lifted_55 : decode cX10_lifted 55 = .ok (.getfield 85, 3) := by decide +kernel
theorem dX10_lifted_58 : decode cX10_lifted 58 = .ok (.iload_n 1, 1) := by decide +kernel
theorem dX10_lifted_59 : decode cX10_lifted 59 = .ok (.aaload, 1) := by decide +kernel
theorem dX10_lifted_60 : decode cX10_lifted 60 = .ok (.getfield 137, 3) := by decide +kernel
theorem dX10_lifted_63 : decode cX10_lifted 63 = .ok (.iload_n 3, 1) := by decide +kernel
theorem dX10_lifted_64 : decode cX10_lifted 64 = .ok (.iadd, 1) := by decide +kernel
theorem dX10_lifted_65 : decode cX10_lifted 65 = .ok (.invokestatic 169, 3) := by decide +kernel
theorem dX10_lifted_68 : decode cX10_lifted 68 = .ok (.invokestatic 128, 3) := by decide +kernel
theorem dX10_lifted_71 : decode cX10_lifted 71 = .ok (.ifCond .eq 9, 3) := by decide +kernel
theorem dX10_lifted_74 : decode cX10_lifted 74 = .ok (.aload_n 0, 1) := by decide +kernel
theorem dX10_lifted_75 : decode cX10_lifted 75 = .ok (.iconst (-1), 1) := by decide +kernel
theorem dX10_lifted_76 : decode cX10_lifted 76 = .ok (.invokevirtual 152, 3) := by decide +kernel
theorem dX10_lifted_79 : decode cX10_lifted 79 = .ok (.lreturn, 1) := by decide +kernel
theorem dX10_lifted_80 : decode cX10_lifted 80 = .ok (.aload_n 0, 1) := by decide +kernel
theorem dX10_lifted_81 : decode cX10_lifted 81 = .ok (.iload_n 1, 1) := by decide +kernel
theorem dX10_lifted_82 : decode cX10_lifted 82 = .ok (.iload_n 2, 1) := by decide +kernel
theorem dX10_lifted_83 : decode cX10_lifted 83 = .ok (.invokevirtual 156, 3) := by decide +kernel
theorem dX10_lifted_86 : decode cX10_lifted 86 = .ok (.astore 5, 2) := by decide +kernel
theorem dX10_lifted_88 : decode cX10_lifted 88 = .ok (.aload 5, 2) := by decide +kernel
theorem dX10_lifted_90 : decode cX10_lifted 90 = .ok (.iload_n 2, 1) := by decide +kernel
theorem dX10_lifted_91 : decode cX10_lifted 91 = .ok (.iload_n 3, 1) := by decide +kernel
theorem dX10_lifted_92 : decode cX10_lifted 92 = .ok (.invokevirtual 173, 3) := by decide +kernel
theorem dX10_lifted_95 : decode cX10_lifted 95 = .ok (.aload 5, 2) := by decide +kernel
theorem dX10_lifted_97 : decode cX10_lifted 97 = .ok (.iload_n 2, 1) := by decide +kernel
theorem dX10_lifted_98 : decode cX10_lifted 98 = .ok (.iload 4, 2) := by decide +kernel
theorem dX10_lifted_100 : decode cX10_lifted 100 = .ok (.invokevirtual 177, 3) := by decide +kernel
theorem dX10_lifted_103 : decode cX10_lifted 103 = .ok (.lreturn, 1) := by decide +kernel
theorem dX10_fault_0 : decode cX10_fault 0 = .ok (.aload_n 0, 1) := by decide +kernel
theorem dX10_fault_1 : decode cX10_fault 1 = .ok (.getfield 10, 3) := by decide +kernel
theorem dX10_fault_4 : decode cX10_fault 4 = .ok (.iload_n 1, 1) := by decide +kernel
theorem dX10_fault_5 : decode cX10_fault 5 = .ok (.invokevirtual 107, 3) := by decide +kernel
theorem dX10_fault_8 : decode cX10_fault 8 = .ok (.ifCond .ne 10, 3) := by decide +kernel
theorem dX10_fault_11 : decode cX10_fault 11 = .ok (.iload_n 2, 1) := by decide +kernel
theorem dX10_fault_12 : decode cX10_fault 12 = .ok (.invokestatic 166, 3) := by decide +kernel
theorem dX10_fault_15 : decode cX10_fault 15 = .ok (.ifCond .ne 9, 3) := by decide +kernel
theorem dX10_fault_18 : decode cX10_fault 18 = .ok (.aload_n 0, 1) := by decide +kernel
theorem dX10_fault_19 : decode cX10_fault 19 = .ok (.iconst (-1), 1) := by decide +kernel
theorem dX10_fault_20 : decode cX10_fault 20 = .ok (.invokevirtual 69, 3) := by decide +kernel
theorem dX10_fault_23 : decode cX10_fault 23 = .ok (.ireturn, 1) := by decide +kernel
theorem dX10_fault_24 : decode cX10_fault 24 = .ok (.iload 4, 2) := by decide +kernel
theorem dX10_fault_26 : decode cX10_fault 26 = .ok (.iconst 2, 1) := by decide +kernel
theorem dX10_fault_27 : decode cX10_fault 27 = .ok (.invokestatic 128, 3) := by decide +kernel
theorem dX10_fault_30 : decode cX10_fault 30 = .ok (.ifCond .eq 10, 3) := by decide +kernel
theorem dX10_fault_33 : decode cX10_fault 33 = .ok (.aload_n 0, 1) := by decide +kernel
theorem dX10_fault_34 : decode cX10_fault 34 = .ok (.bipush (-2), 2) := by decide +kernel
theorem dX10_fault_36 : decode cX10_fault 36 = .ok (.invokevirtual 69, 3) := by decide +kernel
theorem dX10_fault_39 : decode cX10_fault 39 = .ok (.ireturn, 1) := by decide +kernel
theorem dX10_fault_40 : decode cX10_fault 40 = .ok (.iload_n 3, 1) := by decide +kernel
theorem dX10_fault_41 : decode cX10_fault 41 = .ok (.ifCond .ge 10, 3) := by decide +kernel
theorem dX10_fault_44 : decode cX10_fault 44 = .ok (.aload_n 0, 1) := by decide +kernel
theorem dX10_fault_45 : decode cX10_fault 45 = .ok (.bipush (-4), 2) := by decide +kernel
theorem dX10_fault_47 : decode cX10_fault 47 = .ok (.invokevirtual 69, 3) := by decide +kernel
theorem dX10_fault_50 : decode cX10_fault 50 = .ok (.ireturn, 1) := by decide +kernel
theorem dX10_fault_51 : decode cX10_fault 51 = .ok (.iload_n 3, 1) := by decide +kernel
theorem dX10_fault_52 : decode cX10_fault 52 = .ok (.bipush 12, 2) := by decide +kernel
theorem dX10_fault_54 : decode cX10_fault 54 = .ok (.if_icmp .le 10, 3) := by decide +kernel
theorem dX10_fault_57 : decode cX10_fault 57 = .ok (.aload_n 0, 1) := by decide +kernel
theorem dX10_fault_58 : decode cX10_fault 58 = .ok (.bipush (-6), 2) := by decide +kernel
theorem dX10_fault_60 : decode cX10_fault 60 = .ok (.invokevirtual 69, 3) := by decide +kernel
theorem dX10_fault_63 : decode cX10_fault 63 = .ok (.ireturn, 1) := by decide +kernel
theorem dX10_fault_64 : decode cX10_fault 64 = .ok (.aload_n 0, 1) := by decide +kernel
theorem dX10_fault_65 : decode cX10_fault 65 = .ok (.iload_n 1, 1) := by decide +kernel
theorem dX10_fault_66 : decode cX10_fault 66 = .ok (.iload_n 2, 1) := by decide +kernel
theorem dX10_fault_67 : decode cX10_fault 67 = .ok (.invokevirtual 156, 3) := by decide +kernel
theorem dX10_fault_70 : decode cX10_fault 70 = .ok (.astore 5, 2) := by decide +kernel
theorem dX10_fault_72 : decode cX10_fault 72 = .ok (.aload 5, 2) := by decide +kernel
theorem dX10_fault_74 : decode cX10_fault 74 = .ok (.iload_n 2, 1) := by decide +kernel
theorem dX10_fault_75 : decode cX10_fault 75 = .ok (.iload_n 3, 1) := by decide +kernel
theorem dX10_fault_76 : decode cX10_fault 76 = .ok (.invokevirtual 173, 3) := by decide +kernel
theorem dX10_fault_79 : decode cX10_fault 79 = .ok (.aload 5, 2) := by decide +kernel
theorem dX10_fault_81 : decode cX10_fault 81 = .ok (.iload_n 2, 1) := by decide +kernel
theorem dX10_fault_82 : decode cX10_fault 82 = .ok (.iload 4, 2) := by decide +kernel
theorem dX10_fault_84 : decode cX10_fault 84 = .ok (.invokevirtual 181, 3) := by decide +kernel
theorem dX10_fault_87 : decode cX10_fault 87 = .ok (.ireturn, 1) := by decide +kernel
theorem dX10_least_0 : decode cX10_least 0 = .ok (.aload_n 0, 1) := by decide +kernel
theorem dX10_least_1 : decode cX10_least 1 = .ok (.getfield 10, 3) := by decide +kernel
theorem dX10_least_4 : decode cX10_least 4 = .ok (.iload_n 1, 1) := by decide +kernel
theorem dX10_least_5 : decode cX10_least 5 = .ok (.invokevirtual 107, 3) := by decide +kernel
theorem dX10_least_8 : decode cX10_least 8 = .ok (.ifCond .ne 10, 3) := by decide +kernel
theorem dX10_least_11 : decode cX10_least 11 = .ok (.iload_n 2, 1) := by decide +kernel
theorem dX10_least_12 : decode cX10_least 12 = .ok (.invokestatic 166, 3) := by decide +kernel
theorem dX10_least_15 : decode cX10_least 15 = .ok (.ifCond .ne 9, 3) := by decide +kernel
theorem dX10_least_18 : decode cX10_least 18 = .ok (.aload_n 0, 1) := by decide +kernel
theorem dX10_least_19 : decode cX10_least 19 = .ok (.iconst (-1), 1) := by decide +kernel
theorem dX10_least_20 : decode cX10_least 20 = .ok (.invokevirtual 69, 3) := by decide +kernel
theorem dX10_least_23 : decode cX10_least 23 = .ok (.ireturn, 1) := by decide +kernel
theorem dX10_least_24 : decode cX10_least 24 = .ok (.iload_n 3, 1) := by decide +kernel
theorem dX10_least_25 : decode cX10_least 25 = .ok (.iconst 2, 1) := by decide +kernel
theorem dX10_least_26 : decode cX10_least 26 = .ok (.invokestatic 128, 3) := by decide +kernel
theorem dX10_least_29 : decode cX10_least 29 = .ok (.ifCond .eq 10, 3) := by decide +kernel
theorem dX10_least_32 : decode cX10_least 32 = .ok (.aload_n 0, 1) := by decide +kernel
theorem dX10_least_33 : decode cX10_least 33 = .ok (.bipush (-2), 2) := by decide +kernel
theorem dX10_least_35 : decode cX10_least 35 = .ok (.invokevirtual 69, 3) := by decide +kernel
theorem dX10_least_38 : decode cX10_least 38 = .ok (.ireturn, 1) := by decide +kernel
theorem dX10_least_39 : decode cX10_least 39 = .ok (.aload_n 0, 1) := by decide +kernel
theorem dX10_least_40 : decode cX10_least 40 = .ok (.iload_n 1, 1) := by decide +kernel
theorem dX10_least_41 : decode cX10_least 41 = .ok (.iload_n 2, 1) := by decide +kernel
theorem dX10_least_42 : decode cX10_least 42 = .ok (.invokevirtual 156, 3) := by decide +kernel
theorem dX10_least_45 : decode cX10_least 45 = .ok (.iload_n 2, 1) := by decide +kernel
theorem dX10_least_46 : decode cX10_least 46 = .ok (.iload_n 3, 1) := by decide +kernel
theorem dX10_least_47 : decode cX10_least 47 = .ok (.invokevirtual 184, 3) := by decide +kernel
theorem dX10_least_50 : decode cX10_least 50 = .ok (.ireturn, 1) := by decide +kernel
theorem dX10_failing_0 : decode cX10_failing 0 = .ok (.aload_n 0, 1) := by decide +kernel
theorem dX10_failing_1 : decode cX10_failing 1 = .ok (.getfield 10, 3) := by decide +kernel
theorem dX10_failing_4 : decode cX10_failing 4 = .ok (.iload_n 1, 1) := by decide +kernel
theorem dX10_failing_5 : decode cX10_failing 5 = .ok (.invokevirtual 107, 3) := by decide +kernel
theorem dX10_failing_8 : decode cX10_failing 8 = .ok (.ifCond .ne 10, 3) := by decide +kernel
theorem dX10_failing_11 : decode cX10_failing 11 = .ok (.iload_n 2, 1) := by decide +kernel
theorem dX10_failing_12 : decode cX10_failing 12 = .ok (.invokestatic 166, 3) := by decide +kernel
theorem dX10_failing_15 : decode cX10_failing 15 = .ok (.ifCond .ne 9, 3) := by decide +kernel
theorem dX10_failing_18 : decode cX10_failing 18 = .ok (.aload_n 0, 1) := by decide +kernel
theorem dX10_failing_19 : decode cX10_failing 19 = .ok (.iconst (-1), 1) := by decide +kernel
theorem dX10_failing_20 : decode cX10_failing 20 = .ok (.invokevirtual 69, 3) := by decide +kernel
theorem dX10_failing_23 : decode cX10_failing 23 = .ok (.ireturn, 1) := by decide +kernel
theorem dX10_failing_24 : decode cX10_failing 24 = .ok (.iload_n 3, 1) := by decide +kernel
theorem dX10_failing_25 : decode cX10_failing 25 = .ok (.iconst 2, 1) := by decide +kernel
theorem dX10_failing_26 : decode cX10_failing 26 = .ok (.invokestatic 128, 3) := by decide +kernel
theorem dX10_failing_29 : decode cX10_failing 29 = .ok (.ifCond .ne 12, 3) := by decide +kernel
theorem dX10_failing_32 : decode cX10_failing 32 = .ok (.iload 4, 2) := by decide +kernel
theorem dX10_failing_34 : decode cX10_failing 34 = .ok (.iconst 2, 1) := by decide +kernel
theorem dX10_failing_35 : decode cX10_failing 35 = .ok (.invokestatic 128, 3) := by decide +kernel
theorem dX10_failing_38 : decode cX10_failing 38 = .ok (.ifCond .eq 10, 3) := by decide +kernel
theorem dX10_failing_41 : decode cX10_failing 41 = .ok (.aload_n 0, 1) := by decide +kernel
theorem dX10_failing_42 : decode cX10_failing 42 = .ok (.bipush (-2), 2) := by decide +kernel
theorem dX10_failing_44 : decode cX10_failing 44 = .ok (.invokevirtual 69, 3) := by decide +kernel
theorem dX10_failing_47 : decode cX10_failing 47 = .ok (.ireturn, 1) := by decide +kernel
theorem dX10_failing_48 : decode cX10_failing 48 = .ok (.aload_n 0, 1) := by decide +kernel
theorem dX10_failing_49 : decode cX10_failing 49 = .ok (.iload_n 1, 1) := by decide +kernel
theorem dX10_failing_50 : decode cX10_failing 50 = .ok (.iload_n 2, 1) := by decide +kernel
theorem dX10_failing_51 : decode cX10_failing 51 = .ok (.invokevirtual 156, 3) := by decide +kernel
theorem dX10_failing_54 : decode cX10_failing 54 = .ok (.astore 5, 2) := by decide +kernel
theorem dX10_failing_56 : decode cX10_failing 56 = .ok (.aload 5, 2) := by decide +kernel
theorem dX10_failing_58 : decode cX10_failing 58 = .ok (.iload_n 2, 1) := by decide +kernel
theorem dX10_failing_59 : decode cX10_failing 59 = .ok (.iload_n 3, 1) := by decide +kernel
theorem dX10_failing_60 : decode cX10_failing 60 = .ok (.invokevirtual 187, 3) := by decide +kernel
theorem dX10_failing_63 : decode cX10_failing 63 = .ok (.istore 6, 2) := by decide +kernel
theorem dX10_failing_65 : decode cX10_failing 65 = .ok (.iload 6, 2) := by decide +kernel
theorem dX10_failing_67 : decode cX10_failing 67 = .ok (.bipush (-9), 2) := by decide +kernel
theorem dX10_failing_69 : decode cX10_failing 69 = .ok (.if_icmp .eq 8, 3) := by decide +kernel
theorem dX10_failing_72 : decode cX10_failing 72 = .ok (.iload 4, 2) := by decide +kernel
theorem dX10_failing_74 : decode cX10_failing 74 = .ok (.ifCond .ne 8, 3) := by decide +kernel
theorem dX10_failing_77 : decode cX10_failing 77 = .ok (.iload 6, 2) := by decide +kernel
theorem dX10_failing_79 : decode cX10_failing 79 = .ok (.goto 12, 3) := by decide +kernel
theorem dX10_failing_82 : decode cX10_failing 82 = .ok (.aload 5, 2) := by decide +kernel
theorem dX10_failing_84 : decode cX10_failing 84 = .ok (.iload_n 2, 1) := by decide +kernel
theorem dX10_failing_85 : decode cX10_failing 85 = .ok (.iload_n 3, 1) := by decide +kernel
theorem dX10_failing_86 : decode cX10_failing 86 = .ok (.iload 6, 2) := by decide +kernel
theorem dX10_failing_88 : decode cX10_failing 88 = .ok (.invokevirtual 190, 3) := by decide +kernel
theorem dX10_failing_91 : decode cX10_failing 91 = .ok (.ireturn, 1) := by decide +kernel
theorem dX10_pointsRefused_0 : decode cX10_pointsRefused 0 = .ok (.aload_n 0, 1) := by decide +kernel
theorem dX10_pointsRefused_1 : decode cX10_pointsRefused 1 = .ok (.getfield 10, 3) := by decide +kernel
theorem dX10_pointsRefused_4 : decode cX10_pointsRefused 4 = .ok (.iload_n 1, 1) := by decide +kernel
theorem dX10_pointsRefused_5 : decode cX10_pointsRefused 5 = .ok (.invokevirtual 107, 3) := by decide +kernel
theorem dX10_pointsRefused_8 : decode cX10_pointsRefused 8 = .ok (.ifCond .ne 10, 3) := by decide +kernel
theorem dX10_pointsRefused_11 : decode cX10_pointsRefused 11 = .ok (.iload_n 2, 1) := by decide +kernel
theorem dX10_pointsRefused_12 : decode cX10_pointsRefused 12 = .ok (.invokestatic 166, 3) := by decide +kernel
theorem dX10_pointsRefused_15 : decode cX10_pointsRefused 15 = .ok (.ifCond .ne 5, 3) := by decide +kernel
theorem dX10_pointsRefused_18 : decode cX10_pointsRefused 18 = .ok (.iconst (-1), 1) := by decide +kernel
theorem dX10_pointsRefused_19 : decode cX10_pointsRefused 19 = .ok (.ireturn, 1) := by decide +kernel
theorem dX10_pointsRefused_20 : decode cX10_pointsRefused 20 = .ok (.iload_n 3, 1) := by decide +kernel
theorem dX10_pointsRefused_21 : decode cX10_pointsRefused 21 = .ok (.iconst 1, 1) := by decide +kernel
theorem dX10_pointsRefused_22 : decode cX10_pointsRefused 22 = .ok (.if_icmp .ge 6, 3) := by decide +kernel
theorem dX10_pointsRefused_25 : decode cX10_pointsRefused 25 = .ok (.bipush (-4), 2) := by decide +kernel
theorem dX10_pointsRefused_27 : decode cX10_pointsRefused 27 = .ok (.ireturn, 1) := by decide +kernel
theorem dX10_pointsRefused_28 : decode cX10_pointsRefused 28 = .ok (.iload_n 3, 1) := by decide +kernel
theorem dX10_pointsRefused_29 : decode cX10_pointsRefused 29 = .ok (.bipush 12, 2) := by decide +kernel
theorem dX10_pointsRefused_31 : decode cX10_pointsRefused 31 = .ok (.if_icmp .le 6, 3) := by decide +kernel
theorem dX10_pointsRefused_34 : decode cX10_pointsRefused 34 = .ok (.bipush (-6), 2) := by decide +kernel
theorem dX10_pointsRefused_36 : decode cX10_pointsRefused 36 = .ok (.ireturn, 1) := by decide +kernel
theorem dX10_pointsRefused_37 : decode cX10_pointsRefused 37 = .ok (.iload 4, 2) := by decide +kernel
theorem dX10_pointsRefused_39 : decode cX10_pointsRefused 39 = .ok (.iconst 2, 1) := by decide +kernel
theorem dX10_pointsRefused_40 : decode cX10_pointsRefused 40 = .ok (.invokestatic 128, 3) := by decide +kernel
theorem dX10_pointsRefused_43 : decode cX10_pointsRefused 43 = .ok (.ifCond .eq 8, 3) := by decide +kernel
theorem dX10_pointsRefused_46 : decode cX10_pointsRefused 46 = .ok (.bipush (-2), 2) := by decide +kernel
theorem dX10_pointsRefused_48 : decode cX10_pointsRefused 48 = .ok (.goto 4, 3) := by decide +kernel
theorem dX10_pointsRefused_51 : decode cX10_pointsRefused 51 = .ok (.iconst 0, 1) := by decide +kernel
theorem dX10_pointsRefused_52 : decode cX10_pointsRefused 52 = .ok (.ireturn, 1) := by decide +kernel
theorem dX10_lowest_0 : decode cX10_lowest 0 = .ok (.aload_n 0, 1) := by decide +kernel
theorem dX10_lowest_1 : decode cX10_lowest 1 = .ok (.iload_n 1, 1) := by decide +kernel
theorem dX10_lowest_2 : decode cX10_lowest 2 = .ok (.iload_n 2, 1) := by decide +kernel
theorem dX10_lowest_3 : decode cX10_lowest 3 = .ok (.iload_n 3, 1) := by decide +kernel
theorem dX10_lowest_4 : decode cX10_lowest 4 = .ok (.iload 4, 2) := by decide +kernel
theorem dX10_lowest_6 : decode cX10_lowest 6 = .ok (.invokevirtual 194, 3) := by decide +kernel
theorem dX10_lowest_9 : decode cX10_lowest 9 = .ok (.istore 5, 2) := by decide +kernel
theorem dX10_lowest_11 : decode cX10_lowest 11 = .ok (.iload 5, 2) := by decide +kernel
theorem dX10_lowest_13 : decode cX10_lowest 13 = .ok (.ifCond .ge 10, 3) := by decide +kernel
theorem dX10_lowest_16 : decode cX10_lowest 16 = .ok (.aload_n 0, 1) := by decide +kernel
theorem dX10_lowest_17 : decode cX10_lowest 17 = .ok (.iload 5, 2) := by decide +kernel
theorem dX10_lowest_19 : decode cX10_lowest 19 = .ok (.invokevirtual 152, 3) := by decide +kernel
theorem dX10_lowest_22 : decode cX10_lowest 22 = .ok (.lreturn, 1) := by decide +kernel
theorem dX10_lowest_23 : decode cX10_lowest 23 = .ok (.aload_n 0, 1) := by decide +kernel
theorem dX10_lowest_24 : decode cX10_lowest 24 = .ok (.iload_n 1, 1) := by decide +kernel
theorem dX10_lowest_25 : decode cX10_lowest 25 = .ok (.iload_n 2, 1) := by decide +kernel
theorem dX10_lowest_26 : decode cX10_lowest 26 = .ok (.invokevirtual 156, 3) := by decide +kernel
theorem dX10_lowest_29 : decode cX10_lowest 29 = .ok (.astore 6, 2) := by decide +kernel
theorem dX10_lowest_31 : decode cX10_lowest 31 = .ok (.aload 6, 2) := by decide +kernel
theorem dX10_lowest_33 : decode cX10_lowest 33 = .ok (.iload_n 2, 1) := by decide +kernel
theorem dX10_lowest_34 : decode cX10_lowest 34 = .ok (.iload_n 3, 1) := by decide +kernel
theorem dX10_lowest_35 : decode cX10_lowest 35 = .ok (.invokevirtual 198, 3) := by decide +kernel
theorem dX10_lowest_38 : decode cX10_lowest 38 = .ok (.istore 7, 2) := by decide +kernel
theorem dX10_lowest_40 : decode cX10_lowest 40 = .ok (.iload 4, 2) := by decide +kernel
theorem dX10_lowest_42 : decode cX10_lowest 42 = .ok (.ifCond .ne 15, 3) := by decide +kernel
theorem dX10_lowest_45 : decode cX10_lowest 45 = .ok (.aload 6, 2) := by decide +kernel
theorem dX10_lowest_47 : decode cX10_lowest 47 = .ok (.iload_n 2, 1) := by decide +kernel
theorem dX10_lowest_48 : decode cX10_lowest 48 = .ok (.iload_n 3, 1) := by decide +kernel
theorem dX10_lowest_49 : decode cX10_lowest 49 = .ok (.iload 7, 2) := by decide +kernel
theorem dX10_lowest_51 : decode cX10_lowest 51 = .ok (.invokevirtual 201, 3) := by decide +kernel
theorem dX10_lowest_54 : decode cX10_lowest 54 = .ok (.goto 6, 3) := by decide +kernel
theorem dX10_lowest_57 : decode cX10_lowest 57 = .ok (.iload 7, 2) := by decide +kernel
theorem dX10_lowest_59 : decode cX10_lowest 59 = .ok (.i2l, 1) := by decide +kernel
theorem dX10_lowest_60 : decode cX10_lowest 60 = .ok (.lreturn, 1) := by decide +kernel
theorem dX10_share_0 : decode cX10_share 0 = .ok (.aload_n 0, 1) := by decide +kernel
theorem dX10_share_1 : decode cX10_share 1 = .ok (.iload_n 1, 1) := by decide +kernel
theorem dX10_share_2 : decode cX10_share 2 = .ok (.iload_n 2, 1) := by decide +kernel
theorem dX10_share_3 : decode cX10_share 3 = .ok (.iload_n 3, 1) := by decide +kernel
theorem dX10_share_4 : decode cX10_share 4 = .ok (.iload 4, 2) := by decide +kernel
theorem dX10_share_6 : decode cX10_share 6 = .ok (.invokevirtual 194, 3) := by decide +kernel
theorem dX10_share_9 : decode cX10_share 9 = .ok (.istore 5, 2) := by decide +kernel
theorem dX10_share_11 : decode cX10_share 11 = .ok (.iload 5, 2) := by decide +kernel
theorem dX10_share_13 : decode cX10_share 13 = .ok (.ifCond .ge 10, 3) := by decide +kernel
theorem dX10_share_16 : decode cX10_share 16 = .ok (.aload_n 0, 1) := by decide +kernel
theorem dX10_share_17 : decode cX10_share 17 = .ok (.iload 5, 2) := by decide +kernel
theorem dX10_share_19 : decode cX10_share 19 = .ok (.invokevirtual 152, 3) := by decide +kernel
theorem dX10_share_22 : decode cX10_share 22 = .ok (.lreturn, 1) := by decide +kernel
theorem dX10_share_23 : decode cX10_share 23 = .ok (.aload_n 0, 1) := by decide +kernel
theorem dX10_share_24 : decode cX10_share 24 = .ok (.iload_n 1, 1) := by decide +kernel
theorem dX10_share_25 : decode cX10_share 25 = .ok (.iload_n 2, 1) := by decide +kernel
theorem dX10_share_26 : decode cX10_share 26 = .ok (.invokevirtual 156, 3) := by decide +kernel
theorem dX10_share_29 : decode cX10_share 29 = .ok (.iload_n 2, 1) := by decide +kernel
theorem dX10_share_30 : decode cX10_share 30 = .ok (.iload_n 3, 1) := by decide +kernel
theorem dX10_share_31 : decode cX10_share 31 = .ok (.invokevirtual 204, 3) := by decide +kernel
theorem dX10_share_34 : decode cX10_share 34 = .ok (.i2l, 1) := by decide +kernel
theorem dX10_share_35 : decode cX10_share 35 = .ok (.iload_n 2, 1) := by decide +kernel
theorem dX10_share_36 : decode cX10_share 36 = .ok (.iload_n 3, 1) := by decide +kernel
theorem dX10_share_37 : decode cX10_share 37 = .ok (.invokestatic 169, 3) := by decide +kernel
theorem dX10_share_40 : decode cX10_share 40 = .ok (.i2l, 1) := by decide +kernel
theorem dX10_share_41 : decode cX10_share 41 = .ok (.iload 4, 2) := by decide +kernel
theorem dX10_share_43 : decode cX10_share 43 = .ok (.invokestatic 207, 3) := by decide +kernel
theorem dX10_share_46 : decode cX10_share 46 = .ok (.lreturn, 1) := by decide +kernel
theorem dX10_proof_0 : decode cX10_proof 0 = .ok (.aload_n 0, 1) := by decide +kernel
theorem dX10_proof_1 : decode cX10_proof 1 = .ok (.getfield 10, 3) := by decide +kernel
theorem dX10_proof_4 : decode cX10_proof 4 = .ok (.iload_n 1, 1) := by decide +kernel
theorem dX10_proof_5 : decode cX10_proof 5 = .ok (.invokevirtual 107, 3) := by decide +kernel
theorem dX10_proof_8 : decode cX10_proof 8 = .ok (.ifCond .ne 10, 3) := by decide +kernel
theorem dX10_proof_11 : decode cX10_proof 11 = .ok (.iload_n 2, 1) := by decide +kernel
theorem dX10_proof_12 : decode cX10_proof 12 = .ok (.invokestatic 166, 3) := by decide +kernel
theorem dX10_proof_15 : decode cX10_proof 15 = .ok (.ifCond .ne 9, 3) := by decide +kernel
theorem dX10_proof_18 : decode cX10_proof 18 = .ok (.aload_n 0, 1) := by decide +kernel
theorem dX10_proof_19 : decode cX10_proof 19 = .ok (.iconst (-1), 1) := by decide +kernel
theorem dX10_proof_20 : decode cX10_proof 20 = .ok (.invokevirtual 69, 3) := by decide +kernel
theorem dX10_proof_23 : decode cX10_proof 23 = .ok (.ireturn, 1) := by decide +kernel
theorem dX10_proof_24 : decode cX10_proof 24 = .ok (.aload_n 0, 1) := by decide +kernel
theorem dX10_proof_25 : decode cX10_proof 25 = .ok (.iload_n 1, 1) := by decide +kernel
theorem dX10_proof_26 : decode cX10_proof 26 = .ok (.iload_n 2, 1) := by decide +kernel
theorem dX10_proof_27 : decode cX10_proof 27 = .ok (.invokevirtual 156, 3) := by decide +kernel
theorem dX10_proof_30 : decode cX10_proof 30 = .ok (.iload_n 2, 1) := by decide +kernel
theorem dX10_proof_31 : decode cX10_proof 31 = .ok (.iconst 1, 1) := by decide +kernel
theorem dX10_proof_32 : decode cX10_proof 32 = .ok (.invokevirtual 184, 3) := by decide +kernel
theorem dX10_proof_35 : decode cX10_proof 35 = .ok (.bipush (-9), 2) := by decide +kernel
theorem dX10_proof_37 : decode cX10_proof 37 = .ok (.if_icmp .eq 5, 3) := by decide +kernel
theorem dX10_proof_40 : decode cX10_proof 40 = .ok (.iconst 0, 1) := by decide +kernel
theorem dX10_proof_41 : decode cX10_proof 41 = .ok (.ireturn, 1) := by decide +kernel
theorem dX10_proof_42 : decode cX10_proof 42 = .ok (.aload_n 0, 1) := by decide +kernel
theorem dX10_proof_43 : decode cX10_proof 43 = .ok (.iload_n 1, 1) := by decide +kernel
theorem dX10_proof_44 : decode cX10_proof 44 = .ok (.iload_n 2, 1) := by decide +kernel
theorem dX10_proof_45 : decode cX10_proof 45 = .ok (.invokevirtual 156, 3) := by decide +kernel
theorem dX10_proof_48 : decode cX10_proof 48 = .ok (.iload_n 2, 1) := by decide +kernel
theorem dX10_proof_49 : decode cX10_proof 49 = .ok (.iconst 0, 1) := by decide +kernel
theorem dX10_proof_50 : decode cX10_proof 50 = .ok (.invokevirtual 184, 3) := by decide +kernel
theorem dX10_proof_53 : decode cX10_proof 53 = .ok (.bipush (-9), 2) := by decide +kernel
theorem dX10_proof_55 : decode cX10_proof 55 = .ok (.if_icmp .eq 5, 3) := by decide +kernel
theorem dX10_proof_58 : decode cX10_proof 58 = .ok (.iconst 1, 1) := by decide +kernel
theorem dX10_proof_59 : decode cX10_proof 59 = .ok (.ireturn, 1) := by decide +kernel
theorem dX10_proof_60 : decode cX10_proof 60 = .ok (.aload_n 0, 1) := by decide +kernel
theorem dX10_proof_61 : decode cX10_proof 61 = .ok (.iload_n 1, 1) := by decide +kernel
theorem dX10_proof_62 : decode cX10_proof 62 = .ok (.iload_n 2, 1) := by decide +kernel
theorem dX10_proof_63 : decode cX10_proof 63 = .ok (.invokevirtual 156, 3) := by decide +kernel
theorem dX10_proof_66 : decode cX10_proof 66 = .ok (.iload_n 2, 1) := by decide +kernel
theorem dX10_proof_67 : decode cX10_proof 67 = .ok (.iconst 0, 1) := by decide +kernel
theorem dX10_proof_68 : decode cX10_proof 68 = .ok (.invokevirtual 187, 3) := by decide +kernel
theorem dX10_proof_71 : decode cX10_proof 71 = .ok (.bipush (-9), 2) := by decide +kernel
theorem dX10_proof_73 : decode cX10_proof 73 = .ok (.if_icmp .eq 7, 3) := by decide +kernel
theorem dX10_proof_76 : decode cX10_proof 76 = .ok (.iconst 2, 1) := by decide +kernel
theorem dX10_proof_77 : decode cX10_proof 77 = .ok (.goto 4, 3) := by decide +kernel
theorem dX10_proof_80 : decode cX10_proof 80 = .ok (.iconst 3, 1) := by decide +kernel
theorem dX10_proof_81 : decode cX10_proof 81 = .ok (.ireturn, 1) := by decide +kernel
theorem dX10_walls_0 : decode cX10_walls 0 = .ok (.iload_n 1, 1) := by decide +kernel
theorem dX10_walls_1 : decode cX10_walls 1 = .ok (.iconst 3, 1) := by decide +kernel
theorem dX10_walls_2 : decode cX10_walls 2 = .ok (.invokestatic 128, 3) := by decide +kernel
theorem dX10_walls_5 : decode cX10_walls 5 = .ok (.ifCond .eq 9, 3) := by decide +kernel
theorem dX10_walls_8 : decode cX10_walls 8 = .ok (.aload_n 0, 1) := by decide +kernel
theorem dX10_walls_9 : decode cX10_walls 9 = .ok (.iconst (-1), 1) := by decide +kernel
theorem dX10_walls_10 : decode cX10_walls 10 = .ok (.invokevirtual 152, 3) := by decide +kernel
theorem dX10_walls_13 : decode cX10_walls 13 = .ok (.lreturn, 1) := by decide +kernel
theorem dX10_walls_14 : decode cX10_walls 14 = .ok (.iload_n 2, 1) := by decide +kernel
theorem dX10_walls_15 : decode cX10_walls 15 = .ok (.ifCond .lt 7, 3) := by decide +kernel
theorem dX10_walls_18 : decode cX10_walls 18 = .ok (.iload_n 3, 1) := by decide +kernel
theorem dX10_walls_19 : decode cX10_walls 19 = .ok (.ifCond .ge 10, 3) := by decide +kernel
theorem dX10_walls_22 : decode cX10_walls 22 = .ok (.aload_n 0, 1) := by decide +kernel
theorem dX10_walls_23 : decode cX10_walls 23 = .ok (.bipush (-4), 2) := by decide +kernel
theorem dX10_walls_25 : decode cX10_walls 25 = .ok (.invokevirtual 152, 3) := by decide +kernel
theorem dX10_walls_28 : decode cX10_walls 28 = .ok (.lreturn, 1) := by decide +kernel
theorem dX10_walls_29 : decode cX10_walls 29 = .ok (.iload_n 2, 1) := by decide +kernel
theorem dX10_walls_30 : decode cX10_walls 30 = .ok (.bipush 16, 2) := by decide +kernel
theorem dX10_walls_32 : decode cX10_walls 32 = .ok (.if_icmp .gt 8, 3) := by decide +kernel
theorem dX10_walls_35 : decode cX10_walls 35 = .ok (.iload_n 3, 1) := by decide +kernel
theorem dX10_walls_36 : decode cX10_walls 36 = .ok (.iload_n 2, 1) := by decide +kernel
theorem dX10_walls_37 : decode cX10_walls 37 = .ok (.if_icmp .le 10, 3) := by decide +kernel
theorem dX10_walls_40 : decode cX10_walls 40 = .ok (.aload_n 0, 1) := by decide +kernel
theorem dX10_walls_41 : decode cX10_walls 41 = .ok (.bipush (-6), 2) := by decide +kernel
theorem dX10_walls_43 : decode cX10_walls 43 = .ok (.invokevirtual 152, 3) := by decide +kernel
theorem dX10_walls_46 : decode cX10_walls 46 = .ok (.lreturn, 1) := by decide +kernel
theorem dX10_walls_47 : decode cX10_walls 47 = .ok (.aload_n 0, 1) := by decide +kernel
theorem dX10_walls_48 : decode cX10_walls 48 = .ok (.getfield 61, 3) := by decide +kernel
theorem dX10_walls_51 : decode cX10_walls 51 = .ok (.iload_n 1, 1) := by decide +kernel
theorem dX10_walls_52 : decode cX10_walls 52 = .ok (.invokevirtual 211, 3) := by decide +kernel
theorem dX10_walls_55 : decode cX10_walls 55 = .ok (.ifCond .eq 10, 3) := by decide +kernel
theorem dX10_walls_58 : decode cX10_walls 58 = .ok (.aload_n 0, 1) := by decide +kernel
theorem dX10_walls_59 : decode cX10_walls 59 = .ok (.bipush (-11), 2) := by decide +kernel
theorem dX10_walls_61 : decode cX10_walls 61 = .ok (.invokevirtual 152, 3) := by decide +kernel
theorem dX10_walls_64 : decode cX10_walls 64 = .ok (.lreturn, 1) := by decide +kernel
theorem dX10_walls_65 : decode cX10_walls 65 = .ok (.aload_n 0, 1) := by decide +kernel
theorem dX10_walls_66 : decode cX10_walls 66 = .ok (.getfield 61, 3) := by decide +kernel
theorem dX10_walls_69 : decode cX10_walls 69 = .ok (.iload_n 1, 1) := by decide +kernel
theorem dX10_walls_70 : decode cX10_walls 70 = .ok (.invokevirtual 214, 3) := by decide +kernel
theorem dX10_walls_73 : decode cX10_walls 73 = .ok (.ifCond .eq 18, 3) := by decide +kernel
theorem dX10_walls_76 : decode cX10_walls 76 = .ok (.iload_n 2, 1) := by decide +kernel
theorem dX10_walls_77 : decode cX10_walls 77 = .ok (.aload_n 0, 1) := by decide +kernel
theorem dX10_walls_78 : decode cX10_walls 78 = .ok (.getfield 61, 3) := by decide +kernel
theorem dX10_walls_81 : decode cX10_walls 81 = .ok (.getfield 217, 3) := by decide +kernel
theorem dX10_walls_84 : decode cX10_walls 84 = .ok (.iload_n 1, 1) := by decide +kernel
theorem dX10_walls_85 : decode cX10_walls 85 = .ok (.iaload, 1) := by decide +kernel
theorem dX10_walls_86 : decode cX10_walls 86 = .ok (.iconst 1, 1) := by decide +kernel
theorem dX10_walls_87 : decode cX10_walls 87 = .ok (.isub, 1) := by decide +kernel
theorem dX10_walls_88 : decode cX10_walls 88 = .ok (.if_icmp .ge 10, 3) := by decide +kernel
theorem dX10_walls_91 : decode cX10_walls 91 = .ok (.aload_n 0, 1) := by decide +kernel
theorem dX10_walls_92 : decode cX10_walls 92 = .ok (.bipush (-3), 2) := by decide +kernel
theorem dX10_walls_94 : decode cX10_walls 94 = .ok (.invokevirtual 152, 3) := by decide +kernel
theorem dX10_walls_97 : decode cX10_walls 97 = .ok (.lreturn, 1) := by decide +kernel
theorem dX10_walls_98 : decode cX10_walls 98 = .ok (.aload_n 0, 1) := by decide +kernel
theorem dX10_walls_99 : decode cX10_walls 99 = .ok (.getfield 61, 3) := by decide +kernel
theorem dX10_walls_102 : decode cX10_walls 102 = .ok (.iload_n 1, 1) := by decide +kernel
theorem dX10_walls_103 : decode cX10_walls 103 = .ok (.iload_n 2, 1) := by decide +kernel
theorem dX10_walls_104 : decode cX10_walls 104 = .ok (.iload_n 3, 1) := by decide +kernel
theorem dX10_walls_105 : decode cX10_walls 105 = .ok (.invokevirtual 219, 3) := by decide +kernel
theorem dX10_walls_108 : decode cX10_walls 108 = .ok (.lreturn, 1) := by decide +kernel
theorem dX10_wallsLeast_0 : decode cX10_wallsLeast 0 = .ok (.iload_n 1, 1) := by decide +kernel
theorem dX10_wallsLeast_1 : decode cX10_wallsLeast 1 = .ok (.iconst 3, 1) := by decide +kernel
theorem dX10_wallsLeast_2 : decode cX10_wallsLeast 2 = .ok (.invokestatic 128, 3) := by decide +kernel
theorem dX10_wallsLeast_5 : decode cX10_wallsLeast 5 = .ok (.ifCond .eq 9, 3) := by decide +kernel
theorem dX10_wallsLeast_8 : decode cX10_wallsLeast 8 = .ok (.aload_n 0, 1) := by decide +kernel
theorem dX10_wallsLeast_9 : decode cX10_wallsLeast 9 = .ok (.iconst (-1), 1) := by decide +kernel
theorem dX10_wallsLeast_10 : decode cX10_wallsLeast 10 = .ok (.invokevirtual 69, 3) := by decide +kernel
theorem dX10_wallsLeast_13 : decode cX10_wallsLeast 13 = .ok (.ireturn, 1) := by decide +kernel
theorem dX10_wallsLeast_14 : decode cX10_wallsLeast 14 = .ok (.iload_n 2, 1) := by decide +kernel
theorem dX10_wallsLeast_15 : decode cX10_wallsLeast 15 = .ok (.iconst 2, 1) := by decide +kernel
theorem dX10_wallsLeast_16 : decode cX10_wallsLeast 16 = .ok (.invokestatic 128, 3) := by decide +kernel
theorem dX10_wallsLeast_19 : decode cX10_wallsLeast 19 = .ok (.ifCond .eq 10, 3) := by decide +kernel
theorem dX10_wallsLeast_22 : decode cX10_wallsLeast 22 = .ok (.aload_n 0, 1) := by decide +kernel
theorem dX10_wallsLeast_23 : decode cX10_wallsLeast 23 = .ok (.bipush (-2), 2) := by decide +kernel
theorem dX10_wallsLeast_25 : decode cX10_wallsLeast 25 = .ok (.invokevirtual 69, 3) := by decide +kernel
theorem dX10_wallsLeast_28 : decode cX10_wallsLeast 28 = .ok (.ireturn, 1) := by decide +kernel
theorem dX10_wallsLeast_29 : decode cX10_wallsLeast 29 = .ok (.aload_n 0, 1) := by decide +kernel
theorem dX10_wallsLeast_30 : decode cX10_wallsLeast 30 = .ok (.getfield 61, 3) := by decide +kernel
theorem dX10_wallsLeast_33 : decode cX10_wallsLeast 33 = .ok (.iload_n 1, 1) := by decide +kernel
theorem dX10_wallsLeast_34 : decode cX10_wallsLeast 34 = .ok (.invokevirtual 211, 3) := by decide +kernel
theorem dX10_wallsLeast_37 : decode cX10_wallsLeast 37 = .ok (.ifCond .eq 6, 3) := by decide +kernel
theorem dX10_wallsLeast_40 : decode cX10_wallsLeast 40 = .ok (.bipush (-11), 2) := by decide +kernel
theorem dX10_wallsLeast_42 : decode cX10_wallsLeast 42 = .ok (.ireturn, 1) := by decide +kernel
theorem dX10_wallsLeast_43 : decode cX10_wallsLeast 43 = .ok (.aload_n 0, 1) := by decide +kernel
theorem dX10_wallsLeast_44 : decode cX10_wallsLeast 44 = .ok (.getfield 61, 3) := by decide +kernel
theorem dX10_wallsLeast_47 : decode cX10_wallsLeast 47 = .ok (.iload_n 1, 1) := by decide +kernel
theorem dX10_wallsLeast_48 : decode cX10_wallsLeast 48 = .ok (.invokevirtual 214, 3) := by decide +kernel
theorem dX10_wallsLeast_51 : decode cX10_wallsLeast 51 = .ok (.ifCond .ne 10, 3) := by decide +kernel
theorem dX10_wallsLeast_54 : decode cX10_wallsLeast 54 = .ok (.aload_n 0, 1) := by decide +kernel
theorem dX10_wallsLeast_55 : decode cX10_wallsLeast 55 = .ok (.bipush (-3), 2) := by decide +kernel
theorem dX10_wallsLeast_57 : decode cX10_wallsLeast 57 = .ok (.invokevirtual 69, 3) := by decide +kernel
theorem dX10_wallsLeast_60 : decode cX10_wallsLeast 60 = .ok (.ireturn, 1) := by decide +kernel
theorem dX10_wallsLeast_61 : decode cX10_wallsLeast 61 = .ok (.iconst 0, 1) := by decide +kernel
theorem dX10_wallsLeast_62 : decode cX10_wallsLeast 62 = .ok (.aload_n 0, 1) := by decide +kernel
theorem dX10_wallsLeast_63 : decode cX10_wallsLeast 63 = .ok (.getfield 61, 3) := by decide +kernel
theorem dX10_wallsLeast_66 : decode cX10_wallsLeast 66 = .ok (.getfield 217, 3) := by decide +kernel
theorem dX10_wallsLeast_69 : decode cX10_wallsLeast 69 = .ok (.iload_n 1, 1) := by decide +kernel
theorem dX10_wallsLeast_70 : decode cX10_wallsLeast 70 = .ok (.iaload, 1) := by decide +kernel
theorem dX10_wallsLeast_71 : decode cX10_wallsLeast 71 = .ok (.iconst 1, 1) := by decide +kernel
theorem dX10_wallsLeast_72 : decode cX10_wallsLeast 72 = .ok (.isub, 1) := by decide +kernel
theorem dX10_wallsLeast_73 : decode cX10_wallsLeast 73 = .ok (.invokestatic 222, 3) := by decide +kernel
theorem dX10_wallsLeast_76 : decode cX10_wallsLeast 76 = .ok (.istore_n 3, 1) := by decide +kernel
theorem dX10_wallsLeast_77 : decode cX10_wallsLeast 77 = .ok (.iload_n 3, 1) := by decide +kernel
theorem dX10_wallsLeast_78 : decode cX10_wallsLeast 78 = .ok (.bipush 16, 2) := by decide +kernel
theorem dX10_wallsLeast_80 : decode cX10_wallsLeast 80 = .ok (.if_icmp .gt 24, 3) := by decide +kernel
theorem dX10_wallsLeast_83 : decode cX10_wallsLeast 83 = .ok (.aload_n 0, 1) := by decide +kernel
theorem dX10_wallsLeast_84 : decode cX10_wallsLeast 84 = .ok (.getfield 61, 3) := by decide +kernel
theorem dX10_wallsLeast_87 : decode cX10_wallsLeast 87 = .ok (.iload_n 1, 1) := by decide +kernel
theorem dX10_wallsLeast_88 : decode cX10_wallsLeast 88 = .ok (.iload_n 3, 1) := by decide +kernel
theorem dX10_wallsLeast_89 : decode cX10_wallsLeast 89 = .ok (.iload_n 2, 1) := by decide +kernel
theorem dX10_wallsLeast_90 : decode cX10_wallsLeast 90 = .ok (.invokevirtual 227, 3) := by decide +kernel
theorem dX10_wallsLeast_93 : decode cX10_wallsLeast 93 = .ok (.ifCond .eq 5, 3) := by decide +kernel
theorem dX10_wallsLeast_96 : decode cX10_wallsLeast 96 = .ok (.iload_n 3, 1) := by decide +kernel
theorem dX10_wallsLeast_97 : decode cX10_wallsLeast 97 = .ok (.ireturn, 1) := by decide +kernel
theorem dX10_wallsLeast_98 : decode cX10_wallsLeast 98 = .ok (.iinc 3 1, 3) := by decide +kernel
theorem dX10_wallsLeast_101 : decode cX10_wallsLeast 101 = .ok (.goto (-24), 3) := by decide +kernel
theorem dX10_wallsLeast_104 : decode cX10_wallsLeast 104 = .ok (.bipush (-9), 2) := by decide +kernel
theorem dX10_wallsLeast_106 : decode cX10_wallsLeast 106 = .ok (.ireturn, 1) := by decide +kernel
theorem dX10_made_0 : decode cX10_made 0 = .ok (.aload_n 0, 1) := by decide +kernel
theorem dX10_made_1 : decode cX10_made 1 = .ok (.getfield 10, 3) := by decide +kernel
theorem dX10_made_4 : decode cX10_made 4 = .ok (.iload_n 1, 1) := by decide +kernel
theorem dX10_made_5 : decode cX10_made 5 = .ok (.invokevirtual 107, 3) := by decide +kernel
theorem dX10_made_8 : decode cX10_made 8 = .ok (.ifCond .ne 25, 3) := by decide +kernel
theorem dX10_made_11 : decode cX10_made 11 = .ok (.aload_n 0, 1) := by decide +kernel
theorem dX10_made_12 : decode cX10_made 12 = .ok (.getfield 10, 3) := by decide +kernel
theorem dX10_made_15 : decode cX10_made 15 = .ok (.iload_n 2, 1) := by decide +kernel
theorem dX10_made_16 : decode cX10_made 16 = .ok (.invokevirtual 231, 3) := by decide +kernel
theorem dX10_made_19 : decode cX10_made 19 = .ok (.ifCond .ne 14, 3) := by decide +kernel
theorem dX10_made_22 : decode cX10_made 22 = .ok (.aload_n 0, 1) := by decide +kernel
theorem dX10_made_23 : decode cX10_made 23 = .ok (.getfield 10, 3) := by decide +kernel
theorem dX10_made_26 : decode cX10_made 26 = .ok (.iload_n 3, 1) := by decide +kernel
theorem dX10_made_27 : decode cX10_made 27 = .ok (.invokevirtual 107, 3) := by decide +kernel
theorem dX10_made_30 : decode cX10_made 30 = .ok (.ifCond .eq 9, 3) := by decide +kernel
theorem dX10_made_33 : decode cX10_made 33 = .ok (.aload_n 0, 1) := by decide +kernel
theorem dX10_made_34 : decode cX10_made 34 = .ok (.iconst (-1), 1) := by decide +kernel
theorem dX10_made_35 : decode cX10_made 35 = .ok (.invokevirtual 152, 3) := by decide +kernel
theorem dX10_made_38 : decode cX10_made 38 = .ok (.lreturn, 1) := by decide +kernel
theorem dX10_made_39 : decode cX10_made 39 = .ok (.iload 4, 2) := by decide +kernel
theorem dX10_made_41 : decode cX10_made 41 = .ok (.iconst 2, 1) := by decide +kernel
theorem dX10_made_42 : decode cX10_made 42 = .ok (.invokestatic 128, 3) := by decide +kernel
theorem dX10_made_45 : decode cX10_made 45 = .ok (.ifCond .eq 10, 3) := by decide +kernel
theorem dX10_made_48 : decode cX10_made 48 = .ok (.aload_n 0, 1) := by decide +kernel
theorem dX10_made_49 : decode cX10_made 49 = .ok (.bipush (-2), 2) := by decide +kernel
theorem dX10_made_51 : decode cX10_made 51 = .ok (.invokevirtual 152, 3) := by decide +kernel
theorem dX10_made_54 : decode cX10_made 54 = .ok (.lreturn, 1) := by decide +kernel
theorem dX10_made_55 : decode cX10_made 55 = .ok (.aload_n 0, 1) := by decide +kernel
theorem dX10_made_56 : decode cX10_made 56 = .ok (.getfield 10, 3) := by decide +kernel
theorem dX10_made_59 : decode cX10_made 59 = .ok (.iload_n 1, 1) := by decide +kernel
theorem dX10_made_60 : decode cX10_made 60 = .ok (.iload_n 2, 1) := by decide +kernel
theorem dX10_made_61 : decode cX10_made 61 = .ok (.invokevirtual 234, 3) := by decide +kernel
theorem dX10_made_64 : decode cX10_made 64 = .ok (.ifCond .eq 19, 3) := by decide +kernel
theorem dX10_made_67 : decode cX10_made 67 = .ok (.aload_n 0, 1) := by decide +kernel
theorem dX10_made_68 : decode cX10_made 68 = .ok (.getfield 47, 3) := by decide +kernel
theorem dX10_made_71 : decode cX10_made 71 = .ok (.aload_n 0, 1) := by decide +kernel
theorem dX10_made_72 : decode cX10_made 72 = .ok (.getfield 10, 3) := by decide +kernel
theorem dX10_made_75 : decode cX10_made 75 = .ok (.iload_n 1, 1) := by decide +kernel
theorem dX10_made_76 : decode cX10_made 76 = .ok (.iload_n 2, 1) := by decide +kernel
theorem dX10_made_77 : decode cX10_made 77 = .ok (.invokevirtual 237, 3) := by decide +kernel
theorem dX10_made_80 : decode cX10_made 80 = .ok (.ifCond .ne 10, 3) := by decide +kernel
theorem dX10_made_83 : decode cX10_made 83 = .ok (.aload_n 0, 1) := by decide +kernel
theorem dX10_made_84 : decode cX10_made 84 = .ok (.bipush (-3), 2) := by decide +kernel
theorem dX10_made_86 : decode cX10_made 86 = .ok (.invokevirtual 152, 3) := by decide +kernel
theorem dX10_made_89 : decode cX10_made 89 = .ok (.lreturn, 1) := by decide +kernel
theorem dX10_made_90 : decode cX10_made 90 = .ok (.aload_n 0, 1) := by decide +kernel
theorem dX10_made_91 : decode cX10_made 91 = .ok (.getfield 47, 3) := by decide +kernel
theorem dX10_made_94 : decode cX10_made 94 = .ok (.iload_n 2, 1) := by decide +kernel
theorem dX10_made_95 : decode cX10_made 95 = .ok (.iload_n 3, 1) := by decide +kernel
theorem dX10_made_96 : decode cX10_made 96 = .ok (.iload 4, 2) := by decide +kernel
theorem dX10_made_98 : decode cX10_made 98 = .ok (.invokevirtual 241, 3) := by decide +kernel
theorem dX10_made_101 : decode cX10_made 101 = .ok (.lreturn, 1) := by decide +kernel
theorem dX10_sum_0 : decode cX10_sum 0 = .ok (.aload_n 0, 1) := by decide +kernel
theorem dX10_sum_1 : decode cX10_sum 1 = .ok (.getfield 10, 3) := by decide +kernel
theorem dX10_sum_4 : decode cX10_sum 4 = .ok (.iload_n 1, 1) := by decide +kernel
theorem dX10_sum_5 : decode cX10_sum 5 = .ok (.invokevirtual 107, 3) := by decide +kernel
theorem dX10_sum_8 : decode cX10_sum 8 = .ok (.ifCond .ne 14, 3) := by decide +kernel
theorem dX10_sum_11 : decode cX10_sum 11 = .ok (.aload_n 0, 1) := by decide +kernel
theorem dX10_sum_12 : decode cX10_sum 12 = .ok (.getfield 10, 3) := by decide +kernel
theorem dX10_sum_15 : decode cX10_sum 15 = .ok (.iload_n 2, 1) := by decide +kernel
theorem dX10_sum_16 : decode cX10_sum 16 = .ok (.invokevirtual 107, 3) := by decide +kernel
theorem dX10_sum_19 : decode cX10_sum 19 = .ok (.ifCond .eq 9, 3) := by decide +kernel
theorem dX10_sum_22 : decode cX10_sum 22 = .ok (.aload_n 0, 1) := by decide +kernel
theorem dX10_sum_23 : decode cX10_sum 23 = .ok (.iconst (-1), 1) := by decide +kernel
theorem dX10_sum_24 : decode cX10_sum 24 = .ok (.invokevirtual 69, 3) := by decide +kernel
theorem dX10_sum_27 : decode cX10_sum 27 = .ok (.ireturn, 1) := by decide +kernel
theorem dX10_sum_28 : decode cX10_sum 28 = .ok (.aload_n 0, 1) := by decide +kernel
theorem dX10_sum_29 : decode cX10_sum 29 = .ok (.getfield 10, 3) := by decide +kernel
theorem dX10_sum_32 : decode cX10_sum 32 = .ok (.getfield 85, 3) := by decide +kernel
theorem dX10_sum_35 : decode cX10_sum 35 = .ok (.iload_n 1, 1) := by decide +kernel
theorem dX10_sum_36 : decode cX10_sum 36 = .ok (.aaload, 1) := by decide +kernel
theorem dX10_sum_37 : decode cX10_sum 37 = .ok (.getfield 137, 3) := by decide +kernel
theorem dX10_sum_40 : decode cX10_sum 40 = .ok (.aload_n 0, 1) := by decide +kernel
theorem dX10_sum_41 : decode cX10_sum 41 = .ok (.getfield 10, 3) := by decide +kernel
theorem dX10_sum_44 : decode cX10_sum 44 = .ok (.getfield 85, 3) := by decide +kernel
theorem dX10_sum_47 : decode cX10_sum 47 = .ok (.iload_n 2, 1) := by decide +kernel
theorem dX10_sum_48 : decode cX10_sum 48 = .ok (.aaload, 1) := by decide +kernel
theorem dX10_sum_49 : decode cX10_sum 49 = .ok (.getfield 137, 3) := by decide +kernel
theorem dX10_sum_52 : decode cX10_sum 52 = .ok (.if_icmp .eq 10, 3) := by decide +kernel
theorem dX10_sum_55 : decode cX10_sum 55 = .ok (.aload_n 0, 1) := by decide +kernel
theorem dX10_sum_56 : decode cX10_sum 56 = .ok (.bipush (-3), 2) := by decide +kernel
theorem dX10_sum_58 : decode cX10_sum 58 = .ok (.invokevirtual 69, 3) := by decide +kernel
theorem dX10_sum_61 : decode cX10_sum 61 = .ok (.ireturn, 1) := by decide +kernel
theorem dX10_sum_62 : decode cX10_sum 62 = .ok (.aload_n 0, 1) := by decide +kernel
theorem dX10_sum_63 : decode cX10_sum 63 = .ok (.aload_n 0, 1) := by decide +kernel
theorem dX10_sum_64 : decode cX10_sum 64 = .ok (.getfield 10, 3) := by decide +kernel
theorem dX10_sum_67 : decode cX10_sum 67 = .ok (.iload_n 1, 1) := by decide +kernel
theorem dX10_sum_68 : decode cX10_sum 68 = .ok (.iload_n 2, 1) := by decide +kernel
theorem dX10_sum_69 : decode cX10_sum 69 = .ok (.invokevirtual 244, 3) := by decide +kernel
theorem dX10_sum_72 : decode cX10_sum 72 = .ok (.invokevirtual 94, 3) := by decide +kernel
theorem dX10_sum_75 : decode cX10_sum 75 = .ok (.ireturn, 1) := by decide +kernel
theorem dX10_product_0 : decode cX10_product 0 = .ok (.aload_n 0, 1) := by decide +kernel
theorem dX10_product_1 : decode cX10_product 1 = .ok (.getfield 10, 3) := by decide +kernel
theorem dX10_product_4 : decode cX10_product 4 = .ok (.iload_n 1, 1) := by decide +kernel
theorem dX10_product_5 : decode cX10_product 5 = .ok (.invokevirtual 107, 3) := by decide +kernel
theorem dX10_product_8 : decode cX10_product 8 = .ok (.ifCond .ne 14, 3) := by decide +kernel
theorem dX10_product_11 : decode cX10_product 11 = .ok (.aload_n 0, 1) := by decide +kernel
theorem dX10_product_12 : decode cX10_product 12 = .ok (.getfield 10, 3) := by decide +kernel
theorem dX10_product_15 : decode cX10_product 15 = .ok (.iload_n 2, 1) := by decide +kernel
theorem dX10_product_16 : decode cX10_product 16 = .ok (.invokevirtual 107, 3) := by decide +kernel
theorem dX10_product_19 : decode cX10_product 19 = .ok (.ifCond .eq 9, 3) := by decide +kernel
theorem dX10_product_22 : decode cX10_product 22 = .ok (.aload_n 0, 1) := by decide +kernel
theorem dX10_product_23 : decode cX10_product 23 = .ok (.iconst (-1), 1) := by decide +kernel
theorem dX10_product_24 : decode cX10_product 24 = .ok (.invokevirtual 69, 3) := by decide +kernel
theorem dX10_product_27 : decode cX10_product 27 = .ok (.ireturn, 1) := by decide +kernel
theorem dX10_product_28 : decode cX10_product 28 = .ok (.aload_n 0, 1) := by decide +kernel
theorem dX10_product_29 : decode cX10_product 29 = .ok (.aload_n 0, 1) := by decide +kernel
theorem dX10_product_30 : decode cX10_product 30 = .ok (.getfield 10, 3) := by decide +kernel
theorem dX10_product_33 : decode cX10_product 33 = .ok (.iload_n 1, 1) := by decide +kernel
theorem dX10_product_34 : decode cX10_product 34 = .ok (.iload_n 2, 1) := by decide +kernel
theorem dX10_product_35 : decode cX10_product 35 = .ok (.invokevirtual 247, 3) := by decide +kernel
theorem dX10_product_38 : decode cX10_product 38 = .ok (.invokevirtual 94, 3) := by decide +kernel
theorem dX10_product_41 : decode cX10_product 41 = .ok (.ireturn, 1) := by decide +kernel
theorem dX10_lift_0 : decode cX10_lift 0 = .ok (.aload_n 0, 1) := by decide +kernel
theorem dX10_lift_1 : decode cX10_lift 1 = .ok (.getfield 10, 3) := by decide +kernel
theorem dX10_lift_4 : decode cX10_lift 4 = .ok (.iload_n 1, 1) := by decide +kernel
theorem dX10_lift_5 : decode cX10_lift 5 = .ok (.invokevirtual 107, 3) := by decide +kernel
theorem dX10_lift_8 : decode cX10_lift 8 = .ok (.ifCond .eq 9, 3) := by decide +kernel
theorem dX10_lift_11 : decode cX10_lift 11 = .ok (.aload_n 0, 1) := by decide +kernel
theorem dX10_lift_12 : decode cX10_lift 12 = .ok (.iconst (-1), 1) := by decide +kernel
theorem dX10_lift_13 : decode cX10_lift 13 = .ok (.invokevirtual 69, 3) := by decide +kernel
theorem dX10_lift_16 : decode cX10_lift 16 = .ok (.ireturn, 1) := by decide +kernel
theorem dX10_lift_17 : decode cX10_lift 17 = .ok (.iload_n 2, 1) := by decide +kernel
theorem dX10_lift_18 : decode cX10_lift 18 = .ok (.ifCond .ge 10, 3) := by decide +kernel
theorem dX10_lift_21 : decode cX10_lift 21 = .ok (.aload_n 0, 1) := by decide +kernel
theorem dX10_lift_22 : decode cX10_lift 22 = .ok (.bipush (-4), 2) := by decide +kernel
theorem dX10_lift_24 : decode cX10_lift 24 = .ok (.invokevirtual 69, 3) := by decide +kernel
theorem dX10_lift_27 : decode cX10_lift 27 = .ok (.ireturn, 1) := by decide +kernel
theorem dX10_lift_28 : decode cX10_lift 28 = .ok (.aload_n 0, 1) := by decide +kernel
theorem dX10_lift_29 : decode cX10_lift 29 = .ok (.aload_n 0, 1) := by decide +kernel
theorem dX10_lift_30 : decode cX10_lift 30 = .ok (.getfield 10, 3) := by decide +kernel
theorem dX10_lift_33 : decode cX10_lift 33 = .ok (.iload_n 1, 1) := by decide +kernel
theorem dX10_lift_34 : decode cX10_lift 34 = .ok (.iload_n 2, 1) := by decide +kernel
theorem dX10_lift_35 : decode cX10_lift 35 = .ok (.invokevirtual 250, 3) := by decide +kernel
theorem dX10_lift_38 : decode cX10_lift 38 = .ok (.invokevirtual 94, 3) := by decide +kernel
theorem dX10_lift_41 : decode cX10_lift 41 = .ok (.ireturn, 1) := by decide +kernel
theorem dX10_negative_0 : decode cX10_negative 0 = .ok (.aload_n 0, 1) := by decide +kernel
theorem dX10_negative_1 : decode cX10_negative 1 = .ok (.getfield 10, 3) := by decide +kernel
theorem dX10_negative_4 : decode cX10_negative 4 = .ok (.iload_n 1, 1) := by decide +kernel
theorem dX10_negative_5 : decode cX10_negative 5 = .ok (.invokevirtual 107, 3) := by decide +kernel
theorem dX10_negative_8 : decode cX10_negative 8 = .ok (.ifCond .eq 9, 3) := by decide +kernel
theorem dX10_negative_11 : decode cX10_negative 11 = .ok (.aload_n 0, 1) := by decide +kernel
theorem dX10_negative_12 : decode cX10_negative 12 = .ok (.iconst (-1), 1) := by decide +kernel
theorem dX10_negative_13 : decode cX10_negative 13 = .ok (.invokevirtual 69, 3) := by decide +kernel
theorem dX10_negative_16 : decode cX10_negative 16 = .ok (.ireturn, 1) := by decide +kernel
theorem dX10_negative_17 : decode cX10_negative 17 = .ok (.aload_n 0, 1) := by decide +kernel
theorem dX10_negative_18 : decode cX10_negative 18 = .ok (.aload_n 0, 1) := by decide +kernel
theorem dX10_negative_19 : decode cX10_negative 19 = .ok (.getfield 10, 3) := by decide +kernel
theorem dX10_negative_22 : decode cX10_negative 22 = .ok (.iload_n 1, 1) := by decide +kernel
theorem dX10_negative_23 : decode cX10_negative 23 = .ok (.invokevirtual 253, 3) := by decide +kernel
theorem dX10_negative_26 : decode cX10_negative 26 = .ok (.invokevirtual 94, 3) := by decide +kernel
theorem dX10_negative_29 : decode cX10_negative 29 = .ok (.ireturn, 1) := by decide +kernel
theorem dX10_on_0 : decode cX10_on 0 = .ok (.aload_n 0, 1) := by decide +kernel
theorem dX10_on_1 : decode cX10_on 1 = .ok (.getfield 10, 3) := by decide +kernel
theorem dX10_on_4 : decode cX10_on 4 = .ok (.iload_n 1, 1) := by decide +kernel
theorem dX10_on_5 : decode cX10_on 5 = .ok (.invokevirtual 107, 3) := by decide +kernel
theorem dX10_on_8 : decode cX10_on 8 = .ok (.ifCond .ne 10, 3) := by decide +kernel
theorem dX10_on_11 : decode cX10_on 11 = .ok (.iload_n 2, 1) := by decide +kernel
theorem dX10_on_12 : decode cX10_on 12 = .ok (.invokestatic 166, 3) := by decide +kernel
theorem dX10_on_15 : decode cX10_on 15 = .ok (.ifCond .ne 9, 3) := by decide +kernel
theorem dX10_on_18 : decode cX10_on 18 = .ok (.aload_n 0, 1) := by decide +kernel
theorem dX10_on_19 : decode cX10_on 19 = .ok (.iconst (-1), 1) := by decide +kernel
theorem dX10_on_20 : decode cX10_on 20 = .ok (.invokevirtual 69, 3) := by decide +kernel
theorem dX10_on_23 : decode cX10_on 23 = .ok (.ireturn, 1) := by decide +kernel
theorem dX10_on_24 : decode cX10_on 24 = .ok (.aload_n 0, 1) := by decide +kernel
theorem dX10_on_25 : decode cX10_on 25 = .ok (.aload_n 0, 1) := by decide +kernel
theorem dX10_on_26 : decode cX10_on 26 = .ok (.getfield 10, 3) := by decide +kernel
theorem dX10_on_29 : decode cX10_on 29 = .ok (.iload_n 1, 1) := by decide +kernel
theorem dX10_on_30 : decode cX10_on 30 = .ok (.iload_n 2, 1) := by decide +kernel
theorem dX10_on_31 : decode cX10_on 31 = .ok (.invokevirtual 256, 3) := by decide +kernel
theorem dX10_on_34 : decode cX10_on 34 = .ok (.invokevirtual 94, 3) := by decide +kernel
theorem dX10_on_37 : decode cX10_on 37 = .ok (.ireturn, 1) := by decide +kernel
theorem dX10_spelled_0 : decode cX10_spelled 0 = .ok (.aload_n 0, 1) := by decide +kernel
theorem dX10_spelled_1 : decode cX10_spelled 1 = .ok (.getfield 10, 3) := by decide +kernel
theorem dX10_spelled_4 : decode cX10_spelled 4 = .ok (.iload_n 1, 1) := by decide +kernel
theorem dX10_spelled_5 : decode cX10_spelled 5 = .ok (.invokevirtual 107, 3) := by decide +kernel
theorem dX10_spelled_8 : decode cX10_spelled 8 = .ok (.ifCond .eq 9, 3) := by decide +kernel
theorem dX10_spelled_11 : decode cX10_spelled 11 = .ok (.aload_n 0, 1) := by decide +kernel
theorem dX10_spelled_12 : decode cX10_spelled 12 = .ok (.iconst (-1), 1) := by decide +kernel
theorem dX10_spelled_13 : decode cX10_spelled 13 = .ok (.invokevirtual 69, 3) := by decide +kernel
theorem dX10_spelled_16 : decode cX10_spelled 16 = .ok (.ireturn, 1) := by decide +kernel
theorem dX10_spelled_17 : decode cX10_spelled 17 = .ok (.iload_n 2, 1) := by decide +kernel
theorem dX10_spelled_18 : decode cX10_spelled 18 = .ok (.iconst (-1), 1) := by decide +kernel
theorem dX10_spelled_19 : decode cX10_spelled 19 = .ok (.if_icmp .ge 10, 3) := by decide +kernel
theorem dX10_spelled_22 : decode cX10_spelled 22 = .ok (.aload_n 0, 1) := by decide +kernel
theorem dX10_spelled_23 : decode cX10_spelled 23 = .ok (.bipush (-4), 2) := by decide +kernel
theorem dX10_spelled_25 : decode cX10_spelled 25 = .ok (.invokevirtual 69, 3) := by decide +kernel
theorem dX10_spelled_28 : decode cX10_spelled 28 = .ok (.ireturn, 1) := by decide +kernel
theorem dX10_spelled_29 : decode cX10_spelled 29 = .ok (.aload_n 0, 1) := by decide +kernel
theorem dX10_spelled_30 : decode cX10_spelled 30 = .ok (.getfield 40, 3) := by decide +kernel
theorem dX10_spelled_33 : decode cX10_spelled 33 = .ok (.aload_n 0, 1) := by decide +kernel
theorem dX10_spelled_34 : decode cX10_spelled 34 = .ok (.getfield 10, 3) := by decide +kernel
theorem dX10_spelled_37 : decode cX10_spelled 37 = .ok (.getfield 85, 3) := by decide +kernel
theorem dX10_spelled_40 : decode cX10_spelled 40 = .ok (.iload_n 1, 1) := by decide +kernel
theorem dX10_spelled_41 : decode cX10_spelled 41 = .ok (.aaload, 1) := by decide +kernel
theorem dX10_spelled_42 : decode cX10_spelled 42 = .ok (.iload_n 2, 1) := by decide +kernel
theorem dX10_spelled_43 : decode cX10_spelled 43 = .ok (.invokevirtual 259, 3) := by decide +kernel
theorem dX10_spelled_46 : decode cX10_spelled 46 = .ok (.iload_n 2, 1) := by decide +kernel
theorem dX10_spelled_47 : decode cX10_spelled 47 = .ok (.iconst (-1), 1) := by decide +kernel
theorem dX10_spelled_48 : decode cX10_spelled 48 = .ok (.if_icmp .ne 13, 3) := by decide +kernel
theorem dX10_spelled_51 : decode cX10_spelled 51 = .ok (.aload_n 0, 1) := by decide +kernel
theorem dX10_spelled_52 : decode cX10_spelled 52 = .ok (.getfield 40, 3) := by decide +kernel
theorem dX10_spelled_55 : decode cX10_spelled 55 = .ok (.getfield 263, 3) := by decide +kernel
theorem dX10_spelled_58 : decode cX10_spelled 58 = .ok (.goto 10, 3) := by decide +kernel
theorem dX10_spelled_61 : decode cX10_spelled 61 = .ok (.aload_n 0, 1) := by decide +kernel
theorem dX10_spelled_62 : decode cX10_spelled 62 = .ok (.getfield 40, 3) := by decide +kernel
theorem dX10_spelled_65 : decode cX10_spelled 65 = .ok (.getfield 266, 3) := by decide +kernel
theorem dX10_spelled_68 : decode cX10_spelled 68 = .ok (.ireturn, 1) := by decide +kernel
theorem dX10_nextSeed_0 : decode cX10_nextSeed 0 = .ok (.iload_n 0, 1) := by decide +kernel
theorem dX10_nextSeed_1 : decode cX10_nextSeed 1 = .ok (.ldc_w 335, 3) := by decide +kernel
theorem dX10_nextSeed_4 : decode cX10_nextSeed 4 = .ok (.imul, 1) := by decide +kernel
theorem dX10_nextSeed_5 : decode cX10_nextSeed 5 = .ok (.ldc_w 336, 3) := by decide +kernel
theorem dX10_nextSeed_8 : decode cX10_nextSeed 8 = .ok (.iadd, 1) := by decide +kernel
theorem dX10_nextSeed_9 : decode cX10_nextSeed 9 = .ok (.ireturn, 1) := by decide +kernel
theorem dX10_drawOf_0 : decode cX10_drawOf 0 = .ok (.iload_n 0, 1) := by decide +kernel
theorem dX10_drawOf_1 : decode cX10_drawOf 1 = .ok (.ldc_w 337, 3) := by decide +kernel
theorem dX10_drawOf_4 : decode cX10_drawOf 4 = .ok (.iand, 1) := by decide +kernel
theorem dX10_drawOf_5 : decode cX10_drawOf 5 = .ok (.sipush 256, 3) := by decide +kernel
theorem dX10_drawOf_8 : decode cX10_drawOf 8 = .ok (.idiv, 1) := by decide +kernel
theorem dX10_drawOf_9 : decode cX10_drawOf 9 = .ok (.bipush 10, 2) := by decide +kernel
theorem dX10_drawOf_11 : decode cX10_drawOf 11 = .ok (.irem, 1) := by decide +kernel
theorem dX10_drawOf_12 : decode cX10_drawOf 12 = .ok (.ireturn, 1) := by decide +kernel
theorem dX10_drawLots_0 : decode cX10_drawLots 0 = .ok (.iload_n 2, 1) := by decide +kernel
theorem dX10_drawLots_1 : decode cX10_drawLots 1 = .ok (.istore 4, 2) := by decide +kernel
theorem dX10_drawLots_3 : decode cX10_drawLots 3 = .ok (.iconst 0, 1) := by decide +kernel
theorem dX10_drawLots_4 : decode cX10_drawLots 4 = .ok (.istore 5, 2) := by decide +kernel
theorem dX10_drawLots_6 : decode cX10_drawLots 6 = .ok (.iconst 0, 1) := by decide +kernel
theorem dX10_drawLots_7 : decode cX10_drawLots 7 = .ok (.istore 6, 2) := by decide +kernel
theorem dX10_drawLots_9 : decode cX10_drawLots 9 = .ok (.iload 6, 2) := by decide +kernel
theorem dX10_drawLots_11 : decode cX10_drawLots 11 = .ok (.iload_n 1, 1) := by decide +kernel
theorem dX10_drawLots_12 : decode cX10_drawLots 12 = .ok (.if_icmp .ge 75, 3) := by decide +kernel
theorem dX10_drawLots_15 : decode cX10_drawLots 15 = .ok (.iload 4, 2) := by decide +kernel
theorem dX10_drawLots_17 : decode cX10_drawLots 17 = .ok (.invokestatic 329, 3) := by decide +kernel
theorem dX10_drawLots_20 : decode cX10_drawLots 20 = .ok (.istore 7, 2) := by decide +kernel
theorem dX10_drawLots_22 : decode cX10_drawLots 22 = .ok (.iload 7, 2) := by decide +kernel
theorem dX10_drawLots_24 : decode cX10_drawLots 24 = .ok (.invokestatic 329, 3) := by decide +kernel
theorem dX10_drawLots_27 : decode cX10_drawLots 27 = .ok (.istore 8, 2) := by decide +kernel
theorem dX10_drawLots_29 : decode cX10_drawLots 29 = .ok (.iload 8, 2) := by decide +kernel
theorem dX10_drawLots_31 : decode cX10_drawLots 31 = .ok (.invokestatic 329, 3) := by decide +kernel
theorem dX10_drawLots_34 : decode cX10_drawLots 34 = .ok (.istore 4, 2) := by decide +kernel
theorem dX10_drawLots_36 : decode cX10_drawLots 36 = .ok (.aload_n 0, 1) := by decide +kernel
theorem dX10_drawLots_37 : decode cX10_drawLots 37 = .ok (.iload 7, 2) := by decide +kernel
theorem dX10_drawLots_39 : decode cX10_drawLots 39 = .ok (.invokestatic 332, 3) := by decide +kernel
theorem dX10_drawLots_42 : decode cX10_drawLots 42 = .ok (.iload 8, 2) := by decide +kernel
theorem dX10_drawLots_44 : decode cX10_drawLots 44 = .ok (.invokestatic 332, 3) := by decide +kernel
theorem dX10_drawLots_47 : decode cX10_drawLots 47 = .ok (.iload 4, 2) := by decide +kernel
theorem dX10_drawLots_49 : decode cX10_drawLots 49 = .ok (.invokestatic 332, 3) := by decide +kernel
theorem dX10_drawLots_52 : decode cX10_drawLots 52 = .ok (.invokevirtual 160, 3) := by decide +kernel
theorem dX10_drawLots_55 : decode cX10_drawLots 55 = .ok (.lstore 9, 2) := by decide +kernel
theorem dX10_drawLots_57 : decode cX10_drawLots 57 = .ok (.iload_n 3, 1) := by decide +kernel
theorem dX10_drawLots_58 : decode cX10_drawLots 58 = .ok (.ifCond .ne 13, 3) := by decide +kernel
theorem dX10_drawLots_61 : decode cX10_drawLots 61 = .ok (.lload 9, 2) := by decide +kernel
theorem dX10_drawLots_63 : decode cX10_drawLots 63 = .ok (.lconst 0, 1) := by decide +kernel
theorem dX10_drawLots_64 : decode cX10_drawLots 64 = .ok (.lcmp, 1) := by decide +kernel
theorem dX10_drawLots_65 : decode cX10_drawLots 65 = .ok (.ifCond .ge 16, 3) := by decide +kernel
theorem dX10_drawLots_68 : decode cX10_drawLots 68 = .ok (.goto 10, 3) := by decide +kernel
theorem dX10_drawLots_71 : decode cX10_drawLots 71 = .ok (.lload 9, 2) := by decide +kernel
theorem dX10_drawLots_73 : decode cX10_drawLots 73 = .ok (.lconst 0, 1) := by decide +kernel
theorem dX10_drawLots_74 : decode cX10_drawLots 74 = .ok (.lcmp, 1) := by decide +kernel
theorem dX10_drawLots_75 : decode cX10_drawLots 75 = .ok (.ifCond .ne 6, 3) := by decide +kernel
theorem dX10_drawLots_78 : decode cX10_drawLots 78 = .ok (.iinc 5 1, 3) := by decide +kernel
theorem dX10_drawLots_81 : decode cX10_drawLots 81 = .ok (.iinc 6 1, 3) := by decide +kernel
theorem dX10_drawLots_84 : decode cX10_drawLots 84 = .ok (.goto (-75), 3) := by decide +kernel
theorem dX10_drawLots_87 : decode cX10_drawLots 87 = .ok (.iload 5, 2) := by decide +kernel
theorem dX10_drawLots_89 : decode cX10_drawLots 89 = .ok (.ireturn, 1) := by decide +kernel
theorem dX10_lots_0 : decode cX10_lots 0 = .ok (.aload_n 0, 1) := by decide +kernel
theorem dX10_lots_1 : decode cX10_lots 1 = .ok (.getfield 10, 3) := by decide +kernel
theorem dX10_lots_4 : decode cX10_lots 4 = .ok (.iload_n 1, 1) := by decide +kernel
theorem dX10_lots_5 : decode cX10_lots 5 = .ok (.invokevirtual 107, 3) := by decide +kernel
theorem dX10_lots_8 : decode cX10_lots 8 = .ok (.ifCond .eq 9, 3) := by decide +kernel
theorem dX10_lots_11 : decode cX10_lots 11 = .ok (.aload_n 0, 1) := by decide +kernel
theorem dX10_lots_12 : decode cX10_lots 12 = .ok (.iconst (-1), 1) := by decide +kernel
theorem dX10_lots_13 : decode cX10_lots 13 = .ok (.invokevirtual 69, 3) := by decide +kernel
theorem dX10_lots_16 : decode cX10_lots 16 = .ok (.ireturn, 1) := by decide +kernel
theorem dX10_lots_17 : decode cX10_lots 17 = .ok (.iload_n 2, 1) := by decide +kernel
theorem dX10_lots_18 : decode cX10_lots 18 = .ok (.iconst 1, 1) := by decide +kernel
theorem dX10_lots_19 : decode cX10_lots 19 = .ok (.if_icmp .ge 10, 3) := by decide +kernel
theorem dX10_lots_22 : decode cX10_lots 22 = .ok (.aload_n 0, 1) := by decide +kernel
theorem dX10_lots_23 : decode cX10_lots 23 = .ok (.bipush (-4), 2) := by decide +kernel
theorem dX10_lots_25 : decode cX10_lots 25 = .ok (.invokevirtual 69, 3) := by decide +kernel
theorem dX10_lots_28 : decode cX10_lots 28 = .ok (.ireturn, 1) := by decide +kernel
theorem dX10_lots_29 : decode cX10_lots 29 = .ok (.iload_n 2, 1) := by decide +kernel
theorem dX10_lots_30 : decode cX10_lots 30 = .ok (.bipush 50, 2) := by decide +kernel
theorem dX10_lots_32 : decode cX10_lots 32 = .ok (.if_icmp .le 10, 3) := by decide +kernel
theorem dX10_lots_35 : decode cX10_lots 35 = .ok (.aload_n 0, 1) := by decide +kernel
theorem dX10_lots_36 : decode cX10_lots 36 = .ok (.bipush (-6), 2) := by decide +kernel
theorem dX10_lots_38 : decode cX10_lots 38 = .ok (.invokevirtual 69, 3) := by decide +kernel
theorem dX10_lots_41 : decode cX10_lots 41 = .ok (.ireturn, 1) := by decide +kernel
theorem dX10_lots_42 : decode cX10_lots 42 = .ok (.iload 4, 2) := by decide +kernel
theorem dX10_lots_44 : decode cX10_lots 44 = .ok (.iconst 2, 1) := by decide +kernel
theorem dX10_lots_45 : decode cX10_lots 45 = .ok (.invokestatic 128, 3) := by decide +kernel
theorem dX10_lots_48 : decode cX10_lots 48 = .ok (.ifCond .eq 10, 3) := by decide +kernel
theorem dX10_lots_51 : decode cX10_lots 51 = .ok (.aload_n 0, 1) := by decide +kernel
theorem dX10_lots_52 : decode cX10_lots 52 = .ok (.bipush (-2), 2) := by decide +kernel
theorem dX10_lots_54 : decode cX10_lots 54 = .ok (.invokevirtual 69, 3) := by decide +kernel
theorem dX10_lots_57 : decode cX10_lots 57 = .ok (.ireturn, 1) := by decide +kernel
theorem dX10_lots_58 : decode cX10_lots 58 = .ok (.aload_n 0, 1) := by decide +kernel
theorem dX10_lots_59 : decode cX10_lots 59 = .ok (.iload_n 1, 1) := by decide +kernel
theorem dX10_lots_60 : decode cX10_lots 60 = .ok (.bipush 7, 2) := by decide +kernel
theorem dX10_lots_62 : decode cX10_lots 62 = .ok (.invokevirtual 156, 3) := by decide +kernel
theorem dX10_lots_65 : decode cX10_lots 65 = .ok (.iload_n 2, 1) := by decide +kernel
theorem dX10_lots_66 : decode cX10_lots 66 = .ok (.iload_n 3, 1) := by decide +kernel
theorem dX10_lots_67 : decode cX10_lots 67 = .ok (.iload 4, 2) := by decide +kernel
theorem dX10_lots_69 : decode cX10_lots 69 = .ok (.invokestatic 269, 3) := by decide +kernel
theorem dX10_lots_72 : decode cX10_lots 72 = .ok (.ireturn, 1) := by decide +kernel
theorem dX10_list_0 : decode cX10_list 0 = .ok (.iload_n 1, 1) := by decide +kernel
theorem dX10_list_1 : decode cX10_list 1 = .ok (.iconst 3, 1) := by decide +kernel
theorem dX10_list_2 : decode cX10_list 2 = .ok (.invokestatic 128, 3) := by decide +kernel
theorem dX10_list_5 : decode cX10_list 5 = .ok (.ifCond .eq 9, 3) := by decide +kernel
theorem dX10_list_8 : decode cX10_list 8 = .ok (.aload_n 0, 1) := by decide +kernel
theorem dX10_list_9 : decode cX10_list 9 = .ok (.iconst (-1), 1) := by decide +kernel
theorem dX10_list_10 : decode cX10_list 10 = .ok (.invokevirtual 69, 3) := by decide +kernel
theorem dX10_list_13 : decode cX10_list 13 = .ok (.ireturn, 1) := by decide +kernel
theorem dX10_list_14 : decode cX10_list 14 = .ok (.iload_n 2, 1) := by decide +kernel
theorem dX10_list_15 : decode cX10_list 15 = .ok (.bipush 40, 2) := by decide +kernel
theorem dX10_list_17 : decode cX10_list 17 = .ok (.if_icmp .le 10, 3) := by decide +kernel
theorem dX10_list_20 : decode cX10_list 20 = .ok (.aload_n 0, 1) := by decide +kernel
theorem dX10_list_21 : decode cX10_list 21 = .ok (.bipush (-6), 2) := by decide +kernel
theorem dX10_list_23 : decode cX10_list 23 = .ok (.invokevirtual 69, 3) := by decide +kernel
theorem dX10_list_26 : decode cX10_list 26 = .ok (.ireturn, 1) := by decide +kernel
theorem dX10_list_27 : decode cX10_list 27 = .ok (.iload_n 2, 1) := by decide +kernel
theorem dX10_list_28 : decode cX10_list 28 = .ok (.ifCond .ge 6, 3) := by decide +kernel
theorem dX10_list_31 : decode cX10_list 31 = .ok (.bipush (-14), 2) := by decide +kernel
theorem dX10_list_33 : decode cX10_list 33 = .ok (.ireturn, 1) := by decide +kernel
theorem dX10_list_34 : decode cX10_list 34 = .ok (.aload_n 0, 1) := by decide +kernel
theorem dX10_list_35 : decode cX10_list 35 = .ok (.getfield 61, 3) := by decide +kernel
theorem dX10_list_38 : decode cX10_list 38 = .ok (.iload_n 1, 1) := by decide +kernel
theorem dX10_list_39 : decode cX10_list 39 = .ok (.iload_n 2, 1) := by decide +kernel
theorem dX10_list_40 : decode cX10_list 40 = .ok (.invokevirtual 273, 3) := by decide +kernel
theorem dX10_list_43 : decode cX10_list 43 = .ok (.iconst 1, 1) := by decide +kernel
theorem dX10_list_44 : decode cX10_list 44 = .ok (.ireturn, 1) := by decide +kernel
theorem dX10_put_0 : decode cX10_put 0 = .ok (.iload_n 1, 1) := by decide +kernel
theorem dX10_put_1 : decode cX10_put 1 = .ok (.iconst 3, 1) := by decide +kernel
theorem dX10_put_2 : decode cX10_put 2 = .ok (.invokestatic 128, 3) := by decide +kernel
theorem dX10_put_5 : decode cX10_put 5 = .ok (.ifCond .eq 9, 3) := by decide +kernel
theorem dX10_put_8 : decode cX10_put 8 = .ok (.aload_n 0, 1) := by decide +kernel
theorem dX10_put_9 : decode cX10_put 9 = .ok (.iconst (-1), 1) := by decide +kernel
theorem dX10_put_10 : decode cX10_put 10 = .ok (.invokevirtual 69, 3) := by decide +kernel
theorem dX10_put_13 : decode cX10_put 13 = .ok (.ireturn, 1) := by decide +kernel
theorem dX10_put_14 : decode cX10_put 14 = .ok (.aload_n 0, 1) := by decide +kernel
theorem dX10_put_15 : decode cX10_put 15 = .ok (.getfield 61, 3) := by decide +kernel
theorem dX10_put_18 : decode cX10_put 18 = .ok (.iload_n 1, 1) := by decide +kernel
theorem dX10_put_19 : decode cX10_put 19 = .ok (.invokevirtual 211, 3) := by decide +kernel
theorem dX10_put_22 : decode cX10_put 22 = .ok (.ifCond .eq 6, 3) := by decide +kernel
theorem dX10_put_25 : decode cX10_put 25 = .ok (.bipush (-11), 2) := by decide +kernel
theorem dX10_put_27 : decode cX10_put 27 = .ok (.ireturn, 1) := by decide +kernel
theorem dX10_put_28 : decode cX10_put 28 = .ok (.iload_n 2, 1) := by decide +kernel
theorem dX10_put_29 : decode cX10_put 29 = .ok (.aload_n 0, 1) := by decide +kernel
theorem dX10_put_30 : decode cX10_put 30 = .ok (.getfield 61, 3) := by decide +kernel
theorem dX10_put_33 : decode cX10_put 33 = .ok (.getfield 217, 3) := by decide +kernel
theorem dX10_put_36 : decode cX10_put 36 = .ok (.iload_n 1, 1) := by decide +kernel
theorem dX10_put_37 : decode cX10_put 37 = .ok (.iaload, 1) := by decide +kernel
theorem dX10_put_38 : decode cX10_put 38 = .ok (.invokestatic 128, 3) := by decide +kernel
theorem dX10_put_41 : decode cX10_put 41 = .ok (.ifCond .eq 6, 3) := by decide +kernel
theorem dX10_put_44 : decode cX10_put 44 = .ok (.bipush (-13), 2) := by decide +kernel
theorem dX10_put_46 : decode cX10_put 46 = .ok (.ireturn, 1) := by decide +kernel
theorem dX10_put_47 : decode cX10_put 47 = .ok (.aload_n 0, 1) := by decide +kernel
theorem dX10_put_48 : decode cX10_put 48 = .ok (.getfield 61, 3) := by decide +kernel
theorem dX10_put_51 : decode cX10_put 51 = .ok (.getfield 276, 3) := by decide +kernel
theorem dX10_put_54 : decode cX10_put 54 = .ok (.iload_n 1, 1) := by decide +kernel
theorem dX10_put_55 : decode cX10_put 55 = .ok (.aaload, 1) := by decide +kernel
theorem dX10_put_56 : decode cX10_put 56 = .ok (.iload_n 2, 1) := by decide +kernel
theorem dX10_put_57 : decode cX10_put 57 = .ok (.iload_n 3, 1) := by decide +kernel
theorem dX10_put_58 : decode cX10_put 58 = .ok (.iastore, 1) := by decide +kernel
theorem dX10_put_59 : decode cX10_put 59 = .ok (.iconst 1, 1) := by decide +kernel
theorem dX10_put_60 : decode cX10_put 60 = .ok (.ireturn, 1) := by decide +kernel
theorem dX10_look_0 : decode cX10_look 0 = .ok (.iload_n 1, 1) := by decide +kernel
theorem dX10_look_1 : decode cX10_look 1 = .ok (.iconst 3, 1) := by decide +kernel
theorem dX10_look_2 : decode cX10_look 2 = .ok (.invokestatic 128, 3) := by decide +kernel
theorem dX10_look_5 : decode cX10_look 5 = .ok (.ifCond .eq 9, 3) := by decide +kernel
theorem dX10_look_8 : decode cX10_look 8 = .ok (.aload_n 0, 1) := by decide +kernel
theorem dX10_look_9 : decode cX10_look 9 = .ok (.iconst (-1), 1) := by decide +kernel
theorem dX10_look_10 : decode cX10_look 10 = .ok (.invokevirtual 152, 3) := by decide +kernel
theorem dX10_look_13 : decode cX10_look 13 = .ok (.lreturn, 1) := by decide +kernel
theorem dX10_look_14 : decode cX10_look 14 = .ok (.aload_n 0, 1) := by decide +kernel
theorem dX10_look_15 : decode cX10_look 15 = .ok (.getfield 61, 3) := by decide +kernel
theorem dX10_look_18 : decode cX10_look 18 = .ok (.iload_n 1, 1) := by decide +kernel
theorem dX10_look_19 : decode cX10_look 19 = .ok (.invokevirtual 211, 3) := by decide +kernel
theorem dX10_look_22 : decode cX10_look 22 = .ok (.ifCond .eq 10, 3) := by decide +kernel
theorem dX10_look_25 : decode cX10_look 25 = .ok (.aload_n 0, 1) := by decide +kernel
theorem dX10_look_26 : decode cX10_look 26 = .ok (.bipush (-11), 2) := by decide +kernel
theorem dX10_look_28 : decode cX10_look 28 = .ok (.invokevirtual 152, 3) := by decide +kernel
theorem dX10_look_31 : decode cX10_look 31 = .ok (.lreturn, 1) := by decide +kernel
theorem dX10_look_32 : decode cX10_look 32 = .ok (.iload_n 2, 1) := by decide +kernel
theorem dX10_look_33 : decode cX10_look 33 = .ok (.aload_n 0, 1) := by decide +kernel
theorem dX10_look_34 : decode cX10_look 34 = .ok (.getfield 61, 3) := by decide +kernel
theorem dX10_look_37 : decode cX10_look 37 = .ok (.getfield 217, 3) := by decide +kernel
theorem dX10_look_40 : decode cX10_look 40 = .ok (.iload_n 1, 1) := by decide +kernel
theorem dX10_look_41 : decode cX10_look 41 = .ok (.iaload, 1) := by decide +kernel
theorem dX10_look_42 : decode cX10_look 42 = .ok (.invokestatic 128, 3) := by decide +kernel
theorem dX10_look_45 : decode cX10_look 45 = .ok (.ifCond .eq 10, 3) := by decide +kernel
theorem dX10_look_48 : decode cX10_look 48 = .ok (.aload_n 0, 1) := by decide +kernel
theorem dX10_look_49 : decode cX10_look 49 = .ok (.bipush (-13), 2) := by decide +kernel
theorem dX10_look_51 : decode cX10_look 51 = .ok (.invokevirtual 152, 3) := by decide +kernel
theorem dX10_look_54 : decode cX10_look 54 = .ok (.lreturn, 1) := by decide +kernel
theorem dX10_look_55 : decode cX10_look 55 = .ok (.aload_n 0, 1) := by decide +kernel
theorem dX10_look_56 : decode cX10_look 56 = .ok (.getfield 61, 3) := by decide +kernel
theorem dX10_look_59 : decode cX10_look 59 = .ok (.getfield 276, 3) := by decide +kernel
theorem dX10_look_62 : decode cX10_look 62 = .ok (.iload_n 1, 1) := by decide +kernel
theorem dX10_look_63 : decode cX10_look 63 = .ok (.aaload, 1) := by decide +kernel
theorem dX10_look_64 : decode cX10_look 64 = .ok (.iload_n 2, 1) := by decide +kernel
theorem dX10_look_65 : decode cX10_look 65 = .ok (.iaload, 1) := by decide +kernel
theorem dX10_look_66 : decode cX10_look 66 = .ok (.i2l, 1) := by decide +kernel
theorem dX10_look_67 : decode cX10_look 67 = .ok (.lreturn, 1) := by decide +kernel
theorem dX10_lays_0 : decode cX10_lays 0 = .ok (.iload_n 1, 1) := by decide +kernel
theorem dX10_lays_1 : decode cX10_lays 1 = .ok (.iconst 3, 1) := by decide +kernel
theorem dX10_lays_2 : decode cX10_lays 2 = .ok (.invokestatic 128, 3) := by decide +kernel
theorem dX10_lays_5 : decode cX10_lays 5 = .ok (.ifCond .ne 14, 3) := by decide +kernel
theorem dX10_lays_8 : decode cX10_lays 8 = .ok (.aload_n 0, 1) := by decide +kernel
theorem dX10_lays_9 : decode cX10_lays 9 = .ok (.getfield 10, 3) := by decide +kernel
theorem dX10_lays_12 : decode cX10_lays 12 = .ok (.iload_n 3, 1) := by decide +kernel
theorem dX10_lays_13 : decode cX10_lays 13 = .ok (.invokevirtual 107, 3) := by decide +kernel
theorem dX10_lays_16 : decode cX10_lays 16 = .ok (.ifCond .eq 9, 3) := by decide +kernel
theorem dX10_lays_19 : decode cX10_lays 19 = .ok (.aload_n 0, 1) := by decide +kernel
theorem dX10_lays_20 : decode cX10_lays 20 = .ok (.iconst (-1), 1) := by decide +kernel
theorem dX10_lays_21 : decode cX10_lays 21 = .ok (.invokevirtual 69, 3) := by decide +kernel
theorem dX10_lays_24 : decode cX10_lays 24 = .ok (.ireturn, 1) := by decide +kernel
theorem dX10_lays_25 : decode cX10_lays 25 = .ok (.aload_n 0, 1) := by decide +kernel
theorem dX10_lays_26 : decode cX10_lays 26 = .ok (.getfield 61, 3) := by decide +kernel
theorem dX10_lays_29 : decode cX10_lays 29 = .ok (.iload_n 1, 1) := by decide +kernel
theorem dX10_lays_30 : decode cX10_lays 30 = .ok (.invokevirtual 211, 3) := by decide +kernel
theorem dX10_lays_33 : decode cX10_lays 33 = .ok (.ifCond .eq 6, 3) := by decide +kernel
theorem dX10_lays_36 : decode cX10_lays 36 = .ok (.bipush (-11), 2) := by decide +kernel
theorem dX10_lays_38 : decode cX10_lays 38 = .ok (.ireturn, 1) := by decide +kernel
theorem dX10_lays_39 : decode cX10_lays 39 = .ok (.aload_n 0, 1) := by decide +kernel
theorem dX10_lays_40 : decode cX10_lays 40 = .ok (.getfield 10, 3) := by decide +kernel
theorem dX10_lays_43 : decode cX10_lays 43 = .ok (.getfield 85, 3) := by decide +kernel
theorem dX10_lays_46 : decode cX10_lays 46 = .ok (.iload_n 3, 1) := by decide +kernel
theorem dX10_lays_47 : decode cX10_lays 47 = .ok (.aaload, 1) := by decide +kernel
theorem dX10_lays_48 : decode cX10_lays 48 = .ok (.astore 4, 2) := by decide +kernel
theorem dX10_lays_50 : decode cX10_lays 50 = .ok (.aload 4, 2) := by decide +kernel
theorem dX10_lays_52 : decode cX10_lays 52 = .ok (.getfield 137, 3) := by decide +kernel
theorem dX10_lays_55 : decode cX10_lays 55 = .ok (.invokestatic 140, 3) := by decide +kernel
theorem dX10_lays_58 : decode cX10_lays 58 = .ok (.istore 5, 2) := by decide +kernel
theorem dX10_lays_60 : decode cX10_lays 60 = .ok (.iload_n 2, 1) := by decide +kernel
theorem dX10_lays_61 : decode cX10_lays 61 = .ok (.ifCond .lt 19, 3) := by decide +kernel
theorem dX10_lays_64 : decode cX10_lays 64 = .ok (.iload_n 2, 1) := by decide +kernel
theorem dX10_lays_65 : decode cX10_lays 65 = .ok (.aload_n 0, 1) := by decide +kernel
theorem dX10_lays_66 : decode cX10_lays 66 = .ok (.getfield 61, 3) := by decide +kernel
theorem dX10_lays_69 : decode cX10_lays 69 = .ok (.getfield 217, 3) := by decide +kernel
theorem dX10_lays_72 : decode cX10_lays 72 = .ok (.iload_n 1, 1) := by decide +kernel
theorem dX10_lays_73 : decode cX10_lays 73 = .ok (.iaload, 1) := by decide +kernel
theorem dX10_lays_74 : decode cX10_lays 74 = .ok (.iload 5, 2) := by decide +kernel
theorem dX10_lays_76 : decode cX10_lays 76 = .ok (.isub, 1) := by decide +kernel
theorem dX10_lays_77 : decode cX10_lays 77 = .ok (.if_icmp .le 6, 3) := by decide +kernel
theorem dX10_lays_80 : decode cX10_lays 80 = .ok (.bipush (-13), 2) := by decide +kernel
theorem dX10_lays_82 : decode cX10_lays 82 = .ok (.ireturn, 1) := by decide +kernel
theorem dX10_lays_83 : decode cX10_lays 83 = .ok (.iconst 0, 1) := by decide +kernel
theorem dX10_lays_84 : decode cX10_lays 84 = .ok (.istore 6, 2) := by decide +kernel
theorem dX10_lays_86 : decode cX10_lays 86 = .ok (.iload 6, 2) := by decide +kernel
theorem dX10_lays_88 : decode cX10_lays 88 = .ok (.iload 5, 2) := by decide +kernel
theorem dX10_lays_90 : decode cX10_lays 90 = .ok (.if_icmp .ge 30, 3) := by decide +kernel
theorem dX10_lays_93 : decode cX10_lays 93 = .ok (.aload_n 0, 1) := by decide +kernel
theorem dX10_lays_94 : decode cX10_lays 94 = .ok (.getfield 61, 3) := by decide +kernel
theorem dX10_lays_97 : decode cX10_lays 97 = .ok (.getfield 276, 3) := by decide +kernel
theorem dX10_lays_100 : decode cX10_lays 100 = .ok (.iload_n 1, 1) := by decide +kernel
theorem dX10_lays_101 : decode cX10_lays 101 = .ok (.aaload, 1) := by decide +kernel
theorem dX10_lays_102 : decode cX10_lays 102 = .ok (.iload_n 2, 1) := by decide +kernel
theorem dX10_lays_103 : decode cX10_lays 103 = .ok (.iload 6, 2) := by decide +kernel
theorem dX10_lays_105 : decode cX10_lays 105 = .ok (.iadd, 1) := by decide +kernel
theorem dX10_lays_106 : decode cX10_lays 106 = .ok (.aload 4, 2) := by decide +kernel
theorem dX10_lays_108 : decode cX10_lays 108 = .ok (.iload 6, 2) := by decide +kernel
theorem dX10_lays_110 : decode cX10_lays 110 = .ok (.invokevirtual 149, 3) := by decide +kernel
theorem dX10_lays_113 : decode cX10_lays 113 = .ok (.iastore, 1) := by decide +kernel
theorem dX10_lays_114 : decode cX10_lays 114 = .ok (.iinc 6 1, 3) := by decide +kernel
theorem dX10_lays_117 : decode cX10_lays 117 = .ok (.goto (-31), 3) := by decide +kernel
theorem dX10_lays_120 : decode cX10_lays 120 = .ok (.iload 5, 2) := by decide +kernel
theorem dX10_lays_122 : decode cX10_lays 122 = .ok (.ireturn, 1) := by decide +kernel
theorem dX10_judge_0 : decode cX10_judge 0 = .ok (.iload_n 1, 1) := by decide +kernel
theorem dX10_judge_1 : decode cX10_judge 1 = .ok (.iconst 3, 1) := by decide +kernel
theorem dX10_judge_2 : decode cX10_judge 2 = .ok (.invokestatic 128, 3) := by decide +kernel
theorem dX10_judge_5 : decode cX10_judge 5 = .ok (.ifCond .ne 14, 3) := by decide +kernel
theorem dX10_judge_8 : decode cX10_judge 8 = .ok (.aload_n 0, 1) := by decide +kernel
theorem dX10_judge_9 : decode cX10_judge 9 = .ok (.getfield 10, 3) := by decide +kernel
theorem dX10_judge_12 : decode cX10_judge 12 = .ok (.iload_n 2, 1) := by decide +kernel
theorem dX10_judge_13 : decode cX10_judge 13 = .ok (.invokevirtual 107, 3) := by decide +kernel
theorem dX10_judge_16 : decode cX10_judge 16 = .ok (.ifCond .eq 9, 3) := by decide +kernel
theorem dX10_judge_19 : decode cX10_judge 19 = .ok (.aload_n 0, 1) := by decide +kernel
theorem dX10_judge_20 : decode cX10_judge 20 = .ok (.iconst (-1), 1) := by decide +kernel
theorem dX10_judge_21 : decode cX10_judge 21 = .ok (.invokevirtual 69, 3) := by decide +kernel
theorem dX10_judge_24 : decode cX10_judge 24 = .ok (.ireturn, 1) := by decide +kernel
theorem dX10_judge_25 : decode cX10_judge 25 = .ok (.aload_n 0, 1) := by decide +kernel
theorem dX10_judge_26 : decode cX10_judge 26 = .ok (.getfield 61, 3) := by decide +kernel
theorem dX10_judge_29 : decode cX10_judge 29 = .ok (.iload_n 1, 1) := by decide +kernel
theorem dX10_judge_30 : decode cX10_judge 30 = .ok (.invokevirtual 211, 3) := by decide +kernel
theorem dX10_judge_33 : decode cX10_judge 33 = .ok (.ifCond .eq 6, 3) := by decide +kernel
theorem dX10_judge_36 : decode cX10_judge 36 = .ok (.bipush (-11), 2) := by decide +kernel
theorem dX10_judge_38 : decode cX10_judge 38 = .ok (.ireturn, 1) := by decide +kernel
theorem dX10_judge_39 : decode cX10_judge 39 = .ok (.aload_n 0, 1) := by decide +kernel
theorem dX10_judge_40 : decode cX10_judge 40 = .ok (.getfield 10, 3) := by decide +kernel
theorem dX10_judge_43 : decode cX10_judge 43 = .ok (.getfield 85, 3) := by decide +kernel
theorem dX10_judge_46 : decode cX10_judge 46 = .ok (.iload_n 2, 1) := by decide +kernel
theorem dX10_judge_47 : decode cX10_judge 47 = .ok (.aaload, 1) := by decide +kernel
theorem dX10_judge_48 : decode cX10_judge 48 = .ok (.astore_n 3, 1) := by decide +kernel
theorem dX10_judge_49 : decode cX10_judge 49 = .ok (.aload_n 3, 1) := by decide +kernel
theorem dX10_judge_50 : decode cX10_judge 50 = .ok (.getfield 137, 3) := by decide +kernel
theorem dX10_judge_53 : decode cX10_judge 53 = .ok (.invokestatic 140, 3) := by decide +kernel
theorem dX10_judge_56 : decode cX10_judge 56 = .ok (.istore 4, 2) := by decide +kernel
theorem dX10_judge_58 : decode cX10_judge 58 = .ok (.iconst 0, 1) := by decide +kernel
theorem dX10_judge_59 : decode cX10_judge 59 = .ok (.istore 5, 2) := by decide +kernel
theorem dX10_judge_61 : decode cX10_judge 61 = .ok (.iload 5, 2) := by decide +kernel
theorem dX10_judge_63 : decode cX10_judge 63 = .ok (.aload_n 0, 1) := by decide +kernel
theorem dX10_judge_64 : decode cX10_judge 64 = .ok (.getfield 61, 3) := by decide +kernel
theorem dX10_judge_67 : decode cX10_judge 67 = .ok (.getfield 217, 3) := by decide +kernel
theorem dX10_judge_70 : decode cX10_judge 70 = .ok (.iload_n 1, 1) := by decide +kernel
theorem dX10_judge_71 : decode cX10_judge 71 = .ok (.iaload, 1) := by decide +kernel
theorem dX10_judge_72 : decode cX10_judge 72 = .ok (.if_icmp .ge 40, 3) := by decide +kernel
theorem dX10_judge_75 : decode cX10_judge 75 = .ok (.iload 5, 2) := by decide +kernel
theorem dX10_judge_77 : decode cX10_judge 77 = .ok (.iload 4, 2) := by decide +kernel
theorem dX10_judge_79 : decode cX10_judge 79 = .ok (.if_icmp .ge 24, 3) := by decide +kernel
theorem dX10_judge_82 : decode cX10_judge 82 = .ok (.aload_n 0, 1) := by decide +kernel
theorem dX10_judge_83 : decode cX10_judge 83 = .ok (.getfield 61, 3) := by decide +kernel
theorem dX10_judge_86 : decode cX10_judge 86 = .ok (.getfield 276, 3) := by decide +kernel
theorem dX10_judge_89 : decode cX10_judge 89 = .ok (.iload_n 1, 1) := by decide +kernel
theorem dX10_judge_90 : decode cX10_judge 90 = .ok (.aaload, 1) := by decide +kernel
theorem dX10_judge_91 : decode cX10_judge 91 = .ok (.iload 5, 2) := by decide +kernel
theorem dX10_judge_93 : decode cX10_judge 93 = .ok (.iaload, 1) := by decide +kernel
theorem dX10_judge_94 : decode cX10_judge 94 = .ok (.aload_n 3, 1) := by decide +kernel
theorem dX10_judge_95 : decode cX10_judge 95 = .ok (.iload 5, 2) := by decide +kernel
theorem dX10_judge_97 : decode cX10_judge 97 = .ok (.invokevirtual 149, 3) := by decide +kernel
theorem dX10_judge_100 : decode cX10_judge 100 = .ok (.if_icmp .eq 6, 3) := by decide +kernel
theorem dX10_judge_103 : decode cX10_judge 103 = .ok (.iload 5, 2) := by decide +kernel
theorem dX10_judge_105 : decode cX10_judge 105 = .ok (.ireturn, 1) := by decide +kernel
theorem dX10_judge_106 : decode cX10_judge 106 = .ok (.iinc 5 1, 3) := by decide +kernel
theorem dX10_judge_109 : decode cX10_judge 109 = .ok (.goto (-48), 3) := by decide +kernel
theorem dX10_judge_112 : decode cX10_judge 112 = .ok (.bipush (-9), 2) := by decide +kernel
theorem dX10_judge_114 : decode cX10_judge 114 = .ok (.ireturn, 1) := by decide +kernel
theorem dX10_undo_0 : decode cX10_undo 0 = .ok (.aload_n 0, 1) := by decide +kernel
theorem dX10_undo_1 : decode cX10_undo 1 = .ok (.getfield 54, 3) := by decide +kernel
theorem dX10_undo_4 : decode cX10_undo 4 = .ok (.getfield 105, 3) := by decide +kernel
theorem dX10_undo_7 : decode cX10_undo 7 = .ok (.ifCond .gt 10, 3) := by decide +kernel
theorem dX10_undo_10 : decode cX10_undo 10 = .ok (.aload_n 0, 1) := by decide +kernel
theorem dX10_undo_11 : decode cX10_undo 11 = .ok (.bipush (-3), 2) := by decide +kernel
theorem dX10_undo_13 : decode cX10_undo 13 = .ok (.invokevirtual 69, 3) := by decide +kernel
theorem dX10_undo_16 : decode cX10_undo 16 = .ok (.ireturn, 1) := by decide +kernel
theorem dX10_undo_17 : decode cX10_undo 17 = .ok (.aload_n 0, 1) := by decide +kernel
theorem dX10_undo_18 : decode cX10_undo 18 = .ok (.getfield 54, 3) := by decide +kernel
theorem dX10_undo_21 : decode cX10_undo 21 = .ok (.aload_n 0, 1) := by decide +kernel
theorem dX10_undo_22 : decode cX10_undo 22 = .ok (.getfield 10, 3) := by decide +kernel
theorem dX10_undo_25 : decode cX10_undo 25 = .ok (.invokevirtual 280, 3) := by decide +kernel
theorem dX10_undo_28 : decode cX10_undo 28 = .ok (.aload_n 0, 1) := by decide +kernel
theorem dX10_undo_29 : decode cX10_undo 29 = .ok (.getfield 54, 3) := by decide +kernel
theorem dX10_undo_32 : decode cX10_undo 32 = .ok (.getfield 105, 3) := by decide +kernel
theorem dX10_undo_35 : decode cX10_undo 35 = .ok (.ireturn, 1) := by decide +kernel
theorem dX10_image_0 : decode cX10_image 0 = .ok (.aload_n 0, 1) := by decide +kernel
theorem dX10_image_1 : decode cX10_image 1 = .ok (.getfield 10, 3) := by decide +kernel
theorem dX10_image_4 : decode cX10_image 4 = .ok (.invokevirtual 284, 3) := by decide +kernel
theorem dX10_image_7 : decode cX10_image 7 = .ok (.aload_n 0, 1) := by decide +kernel
theorem dX10_image_8 : decode cX10_image 8 = .ok (.getfield 10, 3) := by decide +kernel
theorem dX10_image_11 : decode cX10_image 11 = .ok (.getfield 89, 3) := by decide +kernel
theorem dX10_image_14 : decode cX10_image 14 = .ok (.ireturn, 1) := by decide +kernel
theorem dX10_back_0 : decode cX10_back 0 = .ok (.aload_n 0, 1) := by decide +kernel
theorem dX10_back_1 : decode cX10_back 1 = .ok (.getfield 10, 3) := by decide +kernel
theorem dX10_back_4 : decode cX10_back 4 = .ok (.getfield 287, 3) := by decide +kernel
theorem dX10_back_7 : decode cX10_back 7 = .ok (.ifCond .ge 10, 3) := by decide +kernel
theorem dX10_back_10 : decode cX10_back 10 = .ok (.aload_n 0, 1) := by decide +kernel
theorem dX10_back_11 : decode cX10_back 11 = .ok (.bipush (-3), 2) := by decide +kernel
theorem dX10_back_13 : decode cX10_back 13 = .ok (.invokevirtual 69, 3) := by decide +kernel
theorem dX10_back_16 : decode cX10_back 16 = .ok (.ireturn, 1) := by decide +kernel
theorem dX10_back_17 : decode cX10_back 17 = .ok (.aload_n 0, 1) := by decide +kernel
theorem dX10_back_18 : decode cX10_back 18 = .ok (.getfield 10, 3) := by decide +kernel
theorem dX10_back_21 : decode cX10_back 21 = .ok (.invokevirtual 290, 3) := by decide +kernel
theorem dX10_back_24 : decode cX10_back 24 = .ok (.aload_n 0, 1) := by decide +kernel
theorem dX10_back_25 : decode cX10_back 25 = .ok (.getfield 54, 3) := by decide +kernel
theorem dX10_back_28 : decode cX10_back 28 = .ok (.iconst 0, 1) := by decide +kernel
theorem dX10_back_29 : decode cX10_back 29 = .ok (.putfield 105, 3) := by decide +kernel
theorem dX10_back_32 : decode cX10_back 32 = .ok (.aload_n 0, 1) := by decide +kernel
theorem dX10_back_33 : decode cX10_back 33 = .ok (.getfield 10, 3) := by decide +kernel
theorem dX10_back_36 : decode cX10_back 36 = .ok (.getfield 89, 3) := by decide +kernel
theorem dX10_back_39 : decode cX10_back 39 = .ok (.ireturn, 1) := by decide +kernel
theorem dX10_count_0 : decode cX10_count 0 = .ok (.iload_n 1, 1) := by decide +kernel
theorem dX10_count_1 : decode cX10_count 1 = .ok (.tableswitch 75 0 4 #[35, 43, 51, 59, 67], 35) := by decide +kernel
theorem dX10_count_36 : decode cX10_count 36 = .ok (.aload_n 0, 1) := by decide +kernel
theorem dX10_count_37 : decode cX10_count 37 = .ok (.getfield 10, 3) := by decide +kernel
theorem dX10_count_40 : decode cX10_count 40 = .ok (.getfield 89, 3) := by decide +kernel
theorem dX10_count_43 : decode cX10_count 43 = .ok (.ireturn, 1) := by decide +kernel
theorem dX10_count_44 : decode cX10_count 44 = .ok (.aload_n 0, 1) := by decide +kernel
theorem dX10_count_45 : decode cX10_count 45 = .ok (.getfield 19, 3) := by decide +kernel
theorem dX10_count_48 : decode cX10_count 48 = .ok (.getfield 73, 3) := by decide +kernel
theorem dX10_count_51 : decode cX10_count 51 = .ok (.ireturn, 1) := by decide +kernel
theorem dX10_count_52 : decode cX10_count 52 = .ok (.aload_n 0, 1) := by decide +kernel
theorem dX10_count_53 : decode cX10_count 53 = .ok (.getfield 10, 3) := by decide +kernel
theorem dX10_count_56 : decode cX10_count 56 = .ok (.invokevirtual 293, 3) := by decide +kernel
theorem dX10_count_59 : decode cX10_count 59 = .ok (.ireturn, 1) := by decide +kernel
theorem dX10_count_60 : decode cX10_count 60 = .ok (.aload_n 0, 1) := by decide +kernel
theorem dX10_count_61 : decode cX10_count 61 = .ok (.getfield 54, 3) := by decide +kernel
theorem dX10_count_64 : decode cX10_count 64 = .ok (.getfield 105, 3) := by decide +kernel
theorem dX10_count_67 : decode cX10_count 67 = .ok (.ireturn, 1) := by decide +kernel
theorem dX10_count_68 : decode cX10_count 68 = .ok (.aload_n 0, 1) := by decide +kernel
theorem dX10_count_69 : decode cX10_count 69 = .ok (.getfield 10, 3) := by decide +kernel
theorem dX10_count_72 : decode cX10_count 72 = .ok (.invokevirtual 297, 3) := by decide +kernel
theorem dX10_count_75 : decode cX10_count 75 = .ok (.ireturn, 1) := by decide +kernel
theorem dX10_count_76 : decode cX10_count 76 = .ok (.iload_n 1, 1) := by decide +kernel
theorem dX10_count_77 : decode cX10_count 77 = .ok (.bipush 11, 2) := by decide +kernel
theorem dX10_count_79 : decode cX10_count 79 = .ok (.if_icmp .lt 21, 3) := by decide +kernel
theorem dX10_count_82 : decode cX10_count 82 = .ok (.iload_n 1, 1) := by decide +kernel
theorem dX10_count_83 : decode cX10_count 83 = .ok (.bipush 16, 2) := by decide +kernel
theorem dX10_count_85 : decode cX10_count 85 = .ok (.if_icmp .gt 15, 3) := by decide +kernel
theorem dX10_count_88 : decode cX10_count 88 = .ok (.aload_n 0, 1) := by decide +kernel
theorem dX10_count_89 : decode cX10_count 89 = .ok (.getfield 65, 3) := by decide +kernel
theorem dX10_count_92 : decode cX10_count 92 = .ok (.iload_n 1, 1) := by decide +kernel
theorem dX10_count_93 : decode cX10_count 93 = .ok (.bipush 10, 2) := by decide +kernel
theorem dX10_count_95 : decode cX10_count 95 = .ok (.isub, 1) := by decide +kernel
theorem dX10_count_96 : decode cX10_count 96 = .ok (.iaload, 1) := by decide +kernel
theorem dX10_count_97 : decode cX10_count 97 = .ok (.goto 5, 3) := by decide +kernel
theorem dX10_count_100 : decode cX10_count 100 = .ok (.bipush (-9), 2) := by decide +kernel
theorem dX10_count_102 : decode cX10_count 102 = .ok (.ireturn, 1) := by decide +kernel
