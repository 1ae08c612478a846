theorem dX7_spell_0 : decode cX7_spell 0 = .ok (.aload_n 0, 1) := by decide +kernel
theorem dX7_spell_1 : decode cX7_spell 1 = .ok (.iconst 0, 1) := by decide +kernel
theorem dX7_spell_2 : decode cX7_spell 2 = .ok (.putfield 9, 3) := by decide +kernel
theorem dX7_spell_5 : decode cX7_spell 5 = .ok (.aload_n 0, 1) := by decide +kernel
theorem dX7_spell_6 : decode cX7_spell 6 = .ok (.bipush (-9), 2) := by decide +kernel
theorem dX7_spell_8 : decode cX7_spell 8 = .ok (.putfield 15, 3) := by decide +kernel
theorem dX7_spell_11 : decode cX7_spell 11 = .ok (.aload_n 0, 1) := by decide +kernel
theorem dX7_spell_12 : decode cX7_spell 12 = .ok (.iload_n 2, 1) := by decide +kernel
theorem dX7_spell_13 : decode cX7_spell 13 = .ok (.putfield 18, 3) := by decide +kernel
theorem dX7_spell_16 : decode cX7_spell 16 = .ok (.iconst 0, 1) := by decide +kernel
theorem dX7_spell_17 : decode cX7_spell 17 = .ok (.istore_n 3, 1) := by decide +kernel
theorem dX7_spell_18 : decode cX7_spell 18 = .ok (.iload_n 3, 1) := by decide +kernel
theorem dX7_spell_19 : decode cX7_spell 19 = .ok (.aload_n 1, 1) := by decide +kernel
theorem dX7_spell_20 : decode cX7_spell 20 = .ok (.getfield 21, 3) := by decide +kernel
theorem dX7_spell_23 : decode cX7_spell 23 = .ok (.if_icmp .gt 41, 3) := by decide +kernel
theorem dX7_spell_26 : decode cX7_spell 26 = .ok (.iconst 0, 1) := by decide +kernel
theorem dX7_spell_27 : decode cX7_spell 27 = .ok (.istore 4, 2) := by decide +kernel
theorem dX7_spell_29 : decode cX7_spell 29 = .ok (.iload 4, 2) := by decide +kernel
theorem dX7_spell_31 : decode cX7_spell 31 = .ok (.iload_n 3, 1) := by decide +kernel
theorem dX7_spell_32 : decode cX7_spell 32 = .ok (.if_icmp .gt 26, 3) := by decide +kernel
theorem dX7_spell_35 : decode cX7_spell 35 = .ok (.aload_n 0, 1) := by decide +kernel
theorem dX7_spell_36 : decode cX7_spell 36 = .ok (.aload_n 1, 1) := by decide +kernel
theorem dX7_spell_37 : decode cX7_spell 37 = .ok (.aload_n 1, 1) := by decide +kernel
theorem dX7_spell_38 : decode cX7_spell 38 = .ok (.getfield 21, 3) := by decide +kernel
theorem dX7_spell_41 : decode cX7_spell 41 = .ok (.iload_n 3, 1) := by decide +kernel
theorem dX7_spell_42 : decode cX7_spell 42 = .ok (.isub, 1) := by decide +kernel
theorem dX7_spell_43 : decode cX7_spell 43 = .ok (.iload_n 3, 1) := by decide +kernel
theorem dX7_spell_44 : decode cX7_spell 44 = .ok (.iload 4, 2) := by decide +kernel
theorem dX7_spell_46 : decode cX7_spell 46 = .ok (.isub, 1) := by decide +kernel
theorem dX7_spell_47 : decode cX7_spell 47 = .ok (.iload 4, 2) := by decide +kernel
theorem dX7_spell_49 : decode cX7_spell 49 = .ok (.invokevirtual 26, 3) := by decide +kernel
theorem dX7_spell_52 : decode cX7_spell 52 = .ok (.iinc 4 1, 3) := by decide +kernel
theorem dX7_spell_55 : decode cX7_spell 55 = .ok (.goto (-26), 3) := by decide +kernel
theorem dX7_spell_58 : decode cX7_spell 58 = .ok (.iinc 3 1, 3) := by decide +kernel
theorem dX7_spell_61 : decode cX7_spell 61 = .ok (.goto (-43), 3) := by decide +kernel
theorem dX7_spell_64 : decode cX7_spell 64 = .ok (.aload_n 0, 1) := by decide +kernel
theorem dX7_spell_65 : decode cX7_spell 65 = .ok (.getfield 9, 3) := by decide +kernel
theorem dX7_spell_68 : decode cX7_spell 68 = .ok (.ifCond .ne 9, 3) := by decide +kernel
theorem dX7_spell_71 : decode cX7_spell 71 = .ok (.aload_n 0, 1) := by decide +kernel
theorem dX7_spell_72 : decode cX7_spell 72 = .ok (.bipush 48, 2) := by decide +kernel
theorem dX7_spell_74 : decode cX7_spell 74 = .ok (.invokevirtual 30, 3) := by decide +kernel
theorem dX7_spell_77 : decode cX7_spell 77 = .ok (.return_, 1) := by decide +kernel
theorem dX8_add_0 : decode cX8_add 0 = .ok (.aload_n 0, 1) := by decide +kernel
theorem dX8_add_1 : decode cX8_add 1 = .ok (.getfield 9, 3) := by decide +kernel
theorem dX8_add_4 : decode cX8_add 4 = .ok (.aload_n 0, 1) := by decide +kernel
theorem dX8_add_5 : decode cX8_add 5 = .ok (.getfield 24, 3) := by decide +kernel
theorem dX8_add_8 : decode cX8_add 8 = .ok (.iload_n 1, 1) := by decide +kernel
theorem dX8_add_9 : decode cX8_add 9 = .ok (.iastore, 1) := by decide +kernel
theorem dX8_add_10 : decode cX8_add 10 = .ok (.aload_n 0, 1) := by decide +kernel
theorem dX8_add_11 : decode cX8_add 11 = .ok (.getfield 15, 3) := by decide +kernel
theorem dX8_add_14 : decode cX8_add 14 = .ok (.aload_n 0, 1) := by decide +kernel
theorem dX8_add_15 : decode cX8_add 15 = .ok (.getfield 24, 3) := by decide +kernel
theorem dX8_add_18 : decode cX8_add 18 = .ok (.iload_n 2, 1) := by decide +kernel
theorem dX8_add_19 : decode cX8_add 19 = .ok (.iastore, 1) := by decide +kernel
theorem dX8_add_20 : decode cX8_add 20 = .ok (.aload_n 0, 1) := by decide +kernel
theorem dX8_add_21 : decode cX8_add 21 = .ok (.getfield 18, 3) := by decide +kernel
theorem dX8_add_24 : decode cX8_add 24 = .ok (.aload_n 0, 1) := by decide +kernel
theorem dX8_add_25 : decode cX8_add 25 = .ok (.getfield 24, 3) := by decide +kernel
theorem dX8_add_28 : decode cX8_add 28 = .ok (.iload_n 3, 1) := by decide +kernel
theorem dX8_add_29 : decode cX8_add 29 = .ok (.iastore, 1) := by decide +kernel
theorem dX8_add_30 : decode cX8_add 30 = .ok (.aload_n 0, 1) := by decide +kernel
theorem dX8_add_31 : decode cX8_add 31 = .ok (.getfield 21, 3) := by decide +kernel
theorem dX8_add_34 : decode cX8_add 34 = .ok (.aload_n 0, 1) := by decide +kernel
theorem dX8_add_35 : decode cX8_add 35 = .ok (.getfield 24, 3) := by decide +kernel
theorem dX8_add_38 : decode cX8_add 38 = .ok (.iload 4, 2) := by decide +kernel
theorem dX8_add_40 : decode cX8_add 40 = .ok (.iastore, 1) := by decide +kernel
theorem dX8_add_41 : decode cX8_add 41 = .ok (.aload_n 0, 1) := by decide +kernel
theorem dX8_add_42 : decode cX8_add 42 = .ok (.aload_n 0, 1) := by decide +kernel
theorem dX8_add_43 : decode cX8_add 43 = .ok (.getfield 24, 3) := by decide +kernel
theorem dX8_add_46 : decode cX8_add 46 = .ok (.iconst 1, 1) := by decide +kernel
theorem dX8_add_47 : decode cX8_add 47 = .ok (.iadd, 1) := by decide +kernel
theorem dX8_add_48 : decode cX8_add 48 = .ok (.bipush 16, 2) := by decide +kernel
theorem dX8_add_50 : decode cX8_add 50 = .ok (.irem, 1) := by decide +kernel
theorem dX8_add_51 : decode cX8_add 51 = .ok (.putfield 24, 3) := by decide +kernel
theorem dX8_add_54 : decode cX8_add 54 = .ok (.aload_n 0, 1) := by decide +kernel
theorem dX8_add_55 : decode cX8_add 55 = .ok (.aload_n 0, 1) := by decide +kernel
theorem dX8_add_56 : decode cX8_add 56 = .ok (.getfield 28, 3) := by decide +kernel
theorem dX8_add_59 : decode cX8_add 59 = .ok (.iconst 1, 1) := by decide +kernel
theorem dX8_add_60 : decode cX8_add 60 = .ok (.iadd, 1) := by decide +kernel
theorem dX8_add_61 : decode cX8_add 61 = .ok (.bipush 16, 2) := by decide +kernel
theorem dX8_add_63 : decode cX8_add 63 = .ok (.invokestatic 31, 3) := by decide +kernel
theorem dX8_add_66 : decode cX8_add 66 = .ok (.putfield 28, 3) := by decide +kernel
theorem dX8_add_69 : decode cX8_add 69 = .ok (.return_, 1) := by decide +kernel
theorem dX8_takeBack_0 : decode cX8_takeBack 0 = .ok (.aload_n 0, 1) := by decide +kernel
theorem dX8_takeBack_1 : decode cX8_takeBack 1 = .ok (.aload_n 0, 1) := by decide +kernel
theorem dX8_takeBack_2 : decode cX8_takeBack 2 = .ok (.getfield 24, 3) := by decide +kernel
theorem dX8_takeBack_5 : decode cX8_takeBack 5 = .ok (.bipush 16, 2) := by decide +kernel
theorem dX8_takeBack_7 : decode cX8_takeBack 7 = .ok (.iadd, 1) := by decide +kernel
theorem dX8_takeBack_8 : decode cX8_takeBack 8 = .ok (.iconst 1, 1) := by decide +kernel
theorem dX8_takeBack_9 : decode cX8_takeBack 9 = .ok (.isub, 1) := by decide +kernel
theorem dX8_takeBack_10 : decode cX8_takeBack 10 = .ok (.bipush 16, 2) := by decide +kernel
theorem dX8_takeBack_12 : decode cX8_takeBack 12 = .ok (.irem, 1) := by decide +kernel
theorem dX8_takeBack_13 : decode cX8_takeBack 13 = .ok (.putfield 24, 3) := by decide +kernel
theorem dX8_takeBack_16 : decode cX8_takeBack 16 = .ok (.aload_n 0, 1) := by decide +kernel
theorem dX8_takeBack_17 : decode cX8_takeBack 17 = .ok (.dup, 1) := by decide +kernel
theorem dX8_takeBack_18 : decode cX8_takeBack 18 = .ok (.getfield 28, 3) := by decide +kernel
theorem dX8_takeBack_21 : decode cX8_takeBack 21 = .ok (.iconst 1, 1) := by decide +kernel
theorem dX8_takeBack_22 : decode cX8_takeBack 22 = .ok (.isub, 1) := by decide +kernel
theorem dX8_takeBack_23 : decode cX8_takeBack 23 = .ok (.putfield 28, 3) := by decide +kernel
theorem dX8_takeBack_26 : decode cX8_takeBack 26 = .ok (.aload_n 1, 1) := by decide +kernel
theorem dX8_takeBack_27 : decode cX8_takeBack 27 = .ok (.aload_n 0, 1) := by decide +kernel
theorem dX8_takeBack_28 : decode cX8_takeBack 28 = .ok (.getfield 9, 3) := by decide +kernel
theorem dX8_takeBack_31 : decode cX8_takeBack 31 = .ok (.aload_n 0, 1) := by decide +kernel
theorem dX8_takeBack_32 : decode cX8_takeBack 32 = .ok (.getfield 24, 3) := by decide +kernel
theorem dX8_takeBack_35 : decode cX8_takeBack 35 = .ok (.iaload, 1) := by decide +kernel
theorem dX8_takeBack_36 : decode cX8_takeBack 36 = .ok (.invokevirtual 37, 3) := by decide +kernel
theorem dX8_takeBack_39 : decode cX8_takeBack 39 = .ok (.ifCond .eq 4, 3) := by decide +kernel
theorem dX8_takeBack_42 : decode cX8_takeBack 42 = .ok (.return_, 1) := by decide +kernel
theorem dX8_takeBack_43 : decode cX8_takeBack 43 = .ok (.aload_n 1, 1) := by decide +kernel
theorem dX8_takeBack_44 : decode cX8_takeBack 44 = .ok (.getfield 43, 3) := by decide +kernel
theorem dX8_takeBack_47 : decode cX8_takeBack 47 = .ok (.aload_n 0, 1) := by decide +kernel
theorem dX8_takeBack_48 : decode cX8_takeBack 48 = .ok (.getfield 9, 3) := by decide +kernel
theorem dX8_takeBack_51 : decode cX8_takeBack 51 = .ok (.aload_n 0, 1) := by decide +kernel
theorem dX8_takeBack_52 : decode cX8_takeBack 52 = .ok (.getfield 24, 3) := by decide +kernel
theorem dX8_takeBack_55 : decode cX8_takeBack 55 = .ok (.iaload, 1) := by decide +kernel
theorem dX8_takeBack_56 : decode cX8_takeBack 56 = .ok (.aaload, 1) := by decide +kernel
theorem dX8_takeBack_57 : decode cX8_takeBack 57 = .ok (.astore_n 2, 1) := by decide +kernel
theorem dX8_takeBack_58 : decode cX8_takeBack 58 = .ok (.aload_n 0, 1) := by decide +kernel
theorem dX8_takeBack_59 : decode cX8_takeBack 59 = .ok (.getfield 15, 3) := by decide +kernel
theorem dX8_takeBack_62 : decode cX8_takeBack 62 = .ok (.aload_n 0, 1) := by decide +kernel
theorem dX8_takeBack_63 : decode cX8_takeBack 63 = .ok (.getfield 24, 3) := by decide +kernel
theorem dX8_takeBack_66 : decode cX8_takeBack 66 = .ok (.iaload, 1) := by decide +kernel
theorem dX8_takeBack_67 : decode cX8_takeBack 67 = .ok (.iconst (-1), 1) := by decide +kernel
theorem dX8_takeBack_68 : decode cX8_takeBack 68 = .ok (.if_icmp .ne 32, 3) := by decide +kernel
theorem dX8_takeBack_71 : decode cX8_takeBack 71 = .ok (.aload_n 2, 1) := by decide +kernel
theorem dX8_takeBack_72 : decode cX8_takeBack 72 = .ok (.aload_n 0, 1) := by decide +kernel
theorem dX8_takeBack_73 : decode cX8_takeBack 73 = .ok (.getfield 18, 3) := by decide +kernel
theorem dX8_takeBack_76 : decode cX8_takeBack 76 = .ok (.aload_n 0, 1) := by decide +kernel
theorem dX8_takeBack_77 : decode cX8_takeBack 77 = .ok (.getfield 24, 3) := by decide +kernel
theorem dX8_takeBack_80 : decode cX8_takeBack 80 = .ok (.iaload, 1) := by decide +kernel
theorem dX8_takeBack_81 : decode cX8_takeBack 81 = .ok (.putfield 47, 3) := by decide +kernel
theorem dX8_takeBack_84 : decode cX8_takeBack 84 = .ok (.aload_n 2, 1) := by decide +kernel
theorem dX8_takeBack_85 : decode cX8_takeBack 85 = .ok (.aload_n 0, 1) := by decide +kernel
theorem dX8_takeBack_86 : decode cX8_takeBack 86 = .ok (.getfield 21, 3) := by decide +kernel
theorem dX8_takeBack_89 : decode cX8_takeBack 89 = .ok (.aload_n 0, 1) := by decide +kernel
theorem dX8_takeBack_90 : decode cX8_takeBack 90 = .ok (.getfield 24, 3) := by decide +kernel
theorem dX8_takeBack_93 : decode cX8_takeBack 93 = .ok (.iaload, 1) := by decide +kernel
theorem dX8_takeBack_94 : decode cX8_takeBack 94 = .ok (.putfield 52, 3) := by decide +kernel
theorem dX8_takeBack_97 : decode cX8_takeBack 97 = .ok (.goto 26, 3) := by decide +kernel
theorem dX8_takeBack_100 : decode cX8_takeBack 100 = .ok (.aload_n 2, 1) := by decide +kernel
theorem dX8_takeBack_101 : decode cX8_takeBack 101 = .ok (.getfield 55, 3) := by decide +kernel
theorem dX8_takeBack_104 : decode cX8_takeBack 104 = .ok (.aload_n 0, 1) := by decide +kernel
theorem dX8_takeBack_105 : decode cX8_takeBack 105 = .ok (.getfield 15, 3) := by decide +kernel
theorem dX8_takeBack_108 : decode cX8_takeBack 108 = .ok (.aload_n 0, 1) := by decide +kernel
theorem dX8_takeBack_109 : decode cX8_takeBack 109 = .ok (.getfield 24, 3) := by decide +kernel
theorem dX8_takeBack_112 : decode cX8_takeBack 112 = .ok (.iaload, 1) := by decide +kernel
theorem dX8_takeBack_113 : decode cX8_takeBack 113 = .ok (.aload_n 0, 1) := by decide +kernel
theorem dX8_takeBack_114 : decode cX8_takeBack 114 = .ok (.getfield 18, 3) := by decide +kernel
theorem dX8_takeBack_117 : decode cX8_takeBack 117 = .ok (.aload_n 0, 1) := by decide +kernel
theorem dX8_takeBack_118 : decode cX8_takeBack 118 = .ok (.getfield 24, 3) := by decide +kernel
theorem dX8_takeBack_121 : decode cX8_takeBack 121 = .ok (.iaload, 1) := by decide +kernel
theorem dX8_takeBack_122 : decode cX8_takeBack 122 = .ok (.iastore, 1) := by decide +kernel
theorem dX8_takeBack_123 : decode cX8_takeBack 123 = .ok (.return_, 1) := by decide +kernel
theorem dX10_numberOn_0 : decode cX10_numberOn 0 = .ok (.iload_n 0, 1) := by decide +kernel
theorem dX10_numberOn_1 : decode cX10_numberOn 1 = .ok (.tableswitch 73 1 6 #[39, 41, 47, 53, 59, 65], 39) := by decide +kernel
theorem dX10_numberOn_40 : decode cX10_numberOn 40 = .ok (.iconst 0, 1) := by decide +kernel
theorem dX10_numberOn_41 : decode cX10_numberOn 41 = .ok (.ireturn, 1) := by decide +kernel
theorem dX10_numberOn_42 : decode cX10_numberOn 42 = .ok (.iload_n 1, 1) := by decide +kernel
theorem dX10_numberOn_43 : decode cX10_numberOn 43 = .ok (.iconst 0, 1) := by decide +kernel
theorem dX10_numberOn_44 : decode cX10_numberOn 44 = .ok (.invokestatic 310, 3) := by decide +kernel
theorem dX10_numberOn_47 : decode cX10_numberOn 47 = .ok (.ireturn, 1) := by decide +kernel
theorem dX10_numberOn_48 : decode cX10_numberOn 48 = .ok (.iload_n 2, 1) := by decide +kernel
theorem dX10_numberOn_49 : decode cX10_numberOn 49 = .ok (.iconst 0, 1) := by decide +kernel
theorem dX10_numberOn_50 : decode cX10_numberOn 50 = .ok (.invokestatic 310, 3) := by decide +kernel
theorem dX10_numberOn_53 : decode cX10_numberOn 53 = .ok (.ireturn, 1) := by decide +kernel
theorem dX10_numberOn_54 : decode cX10_numberOn 54 = .ok (.iconst 0, 1) := by decide +kernel
theorem dX10_numberOn_55 : decode cX10_numberOn 55 = .ok (.iload_n 1, 1) := by decide +kernel
theorem dX10_numberOn_56 : decode cX10_numberOn 56 = .ok (.invokestatic 310, 3) := by decide +kernel
theorem dX10_numberOn_59 : decode cX10_numberOn 59 = .ok (.ireturn, 1) := by decide +kernel
theorem dX10_numberOn_60 : decode cX10_numberOn 60 = .ok (.iconst 0, 1) := by decide +kernel
theorem dX10_numberOn_61 : decode cX10_numberOn 61 = .ok (.iload_n 2, 1) := by decide +kernel
theorem dX10_numberOn_62 : decode cX10_numberOn 62 = .ok (.invokestatic 310, 3) := by decide +kernel
theorem dX10_numberOn_65 : decode cX10_numberOn 65 = .ok (.ireturn, 1) := by decide +kernel
theorem dX10_numberOn_66 : decode cX10_numberOn 66 = .ok (.iload_n 1, 1) := by decide +kernel
theorem dX10_numberOn_67 : decode cX10_numberOn 67 = .ok (.iload_n 2, 1) := by decide +kernel
theorem dX10_numberOn_68 : decode cX10_numberOn 68 = .ok (.isub, 1) := by decide +kernel
theorem dX10_numberOn_69 : decode cX10_numberOn 69 = .ok (.iload_n 2, 1) := by decide +kernel
theorem dX10_numberOn_70 : decode cX10_numberOn 70 = .ok (.invokestatic 310, 3) := by decide +kernel
theorem dX10_numberOn_73 : decode cX10_numberOn 73 = .ok (.ireturn, 1) := by decide +kernel
theorem dX10_numberOn_74 : decode cX10_numberOn 74 = .ok (.iload_n 2, 1) := by decide +kernel
theorem dX10_numberOn_75 : decode cX10_numberOn 75 = .ok (.ireturn, 1) := by decide +kernel
theorem dX9_among_0 : decode cX9_among 0 = .ok (.aload_n 0, 1) := by decide +kernel
theorem dX9_among_1 : decode cX9_among 1 = .ok (.getfield 9, 3) := by decide +kernel
theorem dX9_among_4 : decode cX9_among 4 = .ok (.iload_n 1, 1) := by decide +kernel
theorem dX9_among_5 : decode cX9_among 5 = .ok (.aload_n 0, 1) := by decide +kernel
theorem dX9_among_6 : decode cX9_among 6 = .ok (.getfield 15, 3) := by decide +kernel
theorem dX9_among_9 : decode cX9_among 9 = .ok (.iload_n 2, 1) := by decide +kernel
theorem dX9_among_10 : decode cX9_among 10 = .ok (.invokestatic 42, 3) := by decide +kernel
theorem dX9_among_13 : decode cX9_among 13 = .ok (.laload, 1) := by decide +kernel
theorem dX9_among_14 : decode cX9_among 14 = .ok (.lreturn, 1) := by decide +kernel
theorem dJ6_bitCount_0f7a4_0 : decode cJ6_bitCount_0f7a4 0 = .ok (.iload_n 0, 1) := by decide +kernel
theorem dJ6_bitCount_0f7a4_1 : decode cJ6_bitCount_0f7a4 1 = .ok (.iload_n 0, 1) := by decide +kernel
theorem dJ6_bitCount_0f7a4_2 : decode cJ6_bitCount_0f7a4 2 = .ok (.iconst 1, 1) := by decide +kernel
theorem dJ6_bitCount_0f7a4_3 : decode cJ6_bitCount_0f7a4 3 = .ok (.iushr, 1) := by decide +kernel
theorem dJ6_bitCount_0f7a4_4 : decode cJ6_bitCount_0f7a4 4 = .ok (.ldc_w 265, 3) := by decide +kernel
theorem dJ6_bitCount_0f7a4_7 : decode cJ6_bitCount_0f7a4 7 = .ok (.iand, 1) := by decide +kernel
theorem dJ6_bitCount_0f7a4_8 : decode cJ6_bitCount_0f7a4 8 = .ok (.isub, 1) := by decide +kernel
theorem dJ6_bitCount_0f7a4_9 : decode cJ6_bitCount_0f7a4 9 = .ok (.istore_n 0, 1) := by decide +kernel
theorem dJ6_bitCount_0f7a4_10 : decode cJ6_bitCount_0f7a4 10 = .ok (.iload_n 0, 1) := by decide +kernel
theorem dJ6_bitCount_0f7a4_11 : decode cJ6_bitCount_0f7a4 11 = .ok (.ldc_w 266, 3) := by decide +kernel
theorem dJ6_bitCount_0f7a4_14 : decode cJ6_bitCount_0f7a4 14 = .ok (.iand, 1) := by decide +kernel
theorem dJ6_bitCount_0f7a4_15 : decode cJ6_bitCount_0f7a4 15 = .ok (.iload_n 0, 1) := by decide +kernel
theorem dJ6_bitCount_0f7a4_16 : decode cJ6_bitCount_0f7a4 16 = .ok (.iconst 2, 1) := by decide +kernel
theorem dJ6_bitCount_0f7a4_17 : decode cJ6_bitCount_0f7a4 17 = .ok (.iushr, 1) := by decide +kernel
theorem dJ6_bitCount_0f7a4_18 : decode cJ6_bitCount_0f7a4 18 = .ok (.ldc_w 266, 3) := by decide +kernel
theorem dJ6_bitCount_0f7a4_21 : decode cJ6_bitCount_0f7a4 21 = .ok (.iand, 1) := by decide +kernel
theorem dJ6_bitCount_0f7a4_22 : decode cJ6_bitCount_0f7a4 22 = .ok (.iadd, 1) := by decide +kernel
theorem dJ6_bitCount_0f7a4_23 : decode cJ6_bitCount_0f7a4 23 = .ok (.istore_n 0, 1) := by decide +kernel
theorem dJ6_bitCount_0f7a4_24 : decode cJ6_bitCount_0f7a4 24 = .ok (.iload_n 0, 1) := by decide +kernel
theorem dJ6_bitCount_0f7a4_25 : decode cJ6_bitCount_0f7a4 25 = .ok (.iload_n 0, 1) := by decide +kernel
theorem dJ6_bitCount_0f7a4_26 : decode cJ6_bitCount_0f7a4 26 = .ok (.iconst 4, 1) := by decide +kernel
theorem dJ6_bitCount_0f7a4_27 : decode cJ6_bitCount_0f7a4 27 = .ok (.iushr, 1) := by decide +kernel
theorem dJ6_bitCount_0f7a4_28 : decode cJ6_bitCount_0f7a4 28 = .ok (.iadd, 1) := by decide +kernel
theorem dJ6_bitCount_0f7a4_29 : decode cJ6_bitCount_0f7a4 29 = .ok (.ldc_w 267, 3) := by decide +kernel
theorem dJ6_bitCount_0f7a4_32 : decode cJ6_bitCount_0f7a4 32 = .ok (.iand, 1) := by decide +kernel
theorem dJ6_bitCount_0f7a4_33 : decode cJ6_bitCount_0f7a4 33 = .ok (.istore_n 0, 1) := by decide +kernel
theorem dJ6_bitCount_0f7a4_34 : decode cJ6_bitCount_0f7a4 34 = .ok (.iload_n 0, 1) := by decide +kernel
theorem dJ6_bitCount_0f7a4_35 : decode cJ6_bitCount_0f7a4 35 = .ok (.iload_n 0, 1) := by decide +kernel
theorem dJ6_bitCount_0f7a4_36 : decode cJ6_bitCount_0f7a4 36 = .ok (.bipush 8, 2) := by decide +kernel
theorem dJ6_bitCount_0f7a4_38 : decode cJ6_bitCount_0f7a4 38 = .ok (.iushr, 1) := by decide +kernel
theorem dJ6_bitCount_0f7a4_39 : decode cJ6_bitCount_0f7a4 39 = .ok (.iadd, 1) := by decide +kernel
theorem dJ6_bitCount_0f7a4_40 : decode cJ6_bitCount_0f7a4 40 = .ok (.istore_n 0, 1) := by decide +kernel
theorem dJ6_bitCount_0f7a4_41 : decode cJ6_bitCount_0f7a4 41 = .ok (.iload_n 0, 1) := by decide +kernel
theorem dJ6_bitCount_0f7a4_42 : decode cJ6_bitCount_0f7a4 42 = .ok (.iload_n 0, 1) := by decide +kernel
theorem dJ6_bitCount_0f7a4_43 : decode cJ6_bitCount_0f7a4 43 = .ok (.bipush 16, 2) := by decide +kernel
theorem dJ6_bitCount_0f7a4_45 : decode cJ6_bitCount_0f7a4 45 = .ok (.iushr, 1) := by decide +kernel
theorem dJ6_bitCount_0f7a4_46 : decode cJ6_bitCount_0f7a4 46 = .ok (.iadd, 1) := by decide +kernel
theorem dJ6_bitCount_0f7a4_47 : decode cJ6_bitCount_0f7a4 47 = .ok (.istore_n 0, 1) := by decide +kernel
theorem dJ6_bitCount_0f7a4_48 : decode cJ6_bitCount_0f7a4 48 = .ok (.iload_n 0, 1) := by decide +kernel
theorem dJ6_bitCount_0f7a4_49 : decode cJ6_bitCount_0f7a4 49 = .ok (.bipush 63, 2) := by decide +kernel
theorem dJ6_bitCount_0f7a4_51 : decode cJ6_bitCount_0f7a4 51 = .ok (.iand, 1) := by decide +kernel
theorem dJ6_bitCount_0f7a4_52 : decode cJ6_bitCount_0f7a4 52 = .ok (.ireturn, 1) := by decide +kernel
theorem dX10_placesOn_0 : decode cX10_placesOn 0 = .ok (.iload_n 0, 1) := by decide +kernel
theorem dX10_placesOn_1 : decode cX10_placesOn 1 = .ok (.invokestatic 316, 3) := by decide +kernel
theorem dX10_placesOn_4 : decode cX10_placesOn 4 = .ok (.istore_n 2, 1) := by decide +kernel
theorem dX10_placesOn_5 : decode cX10_placesOn 5 = .ok (.iload_n 2, 1) := by decide +kernel
theorem dX10_placesOn_6 : decode cX10_placesOn 6 = .ok (.iconst 1, 1) := by decide +kernel
theorem dX10_placesOn_7 : decode cX10_placesOn 7 = .ok (.if_icmp .ne 5, 3) := by decide +kernel
theorem dX10_placesOn_10 : decode cX10_placesOn 10 = .ok (.iconst 1, 1) := by decide +kernel
theorem dX10_placesOn_11 : decode cX10_placesOn 11 = .ok (.ireturn, 1) := by decide +kernel
theorem dX10_placesOn_12 : decode cX10_placesOn 12 = .ok (.iload_n 2, 1) := by decide +kernel
theorem dX10_placesOn_13 : decode cX10_placesOn 13 = .ok (.iconst 2, 1) := by decide +kernel
theorem dX10_placesOn_14 : decode cX10_placesOn 14 = .ok (.if_icmp .ne 9, 3) := by decide +kernel
theorem dX10_placesOn_17 : decode cX10_placesOn 17 = .ok (.iload_n 1, 1) := by decide +kernel
theorem dX10_placesOn_18 : decode cX10_placesOn 18 = .ok (.iconst 1, 1) := by decide +kernel
theorem dX10_placesOn_19 : decode cX10_placesOn 19 = .ok (.iadd, 1) := by decide +kernel
theorem dX10_placesOn_20 : decode cX10_placesOn 20 = .ok (.goto 7, 3) := by decide +kernel
theorem dX10_placesOn_23 : decode cX10_placesOn 23 = .ok (.iload_n 1, 1) := by decide +kernel
theorem dX10_placesOn_24 : decode cX10_placesOn 24 = .ok (.invokestatic 140, 3) := by decide +kernel
theorem dX10_placesOn_27 : decode cX10_placesOn 27 = .ok (.ireturn, 1) := by decide +kernel
theorem dX9_firstFault_0 : decode cX9_firstFault 0 = .ok (.iconst 0, 1) := by decide +kernel
theorem dX9_firstFault_1 : decode cX9_firstFault 1 = .ok (.istore_n 3, 1) := by decide +kernel
theorem dX9_firstFault_2 : decode cX9_firstFault 2 = .ok (.iload_n 3, 1) := by decide +kernel
theorem dX9_firstFault_3 : decode cX9_firstFault 3 = .ok (.iload_n 1, 1) := by decide +kernel
theorem dX9_firstFault_4 : decode cX9_firstFault 4 = .ok (.aload_n 0, 1) := by decide +kernel
theorem dX9_firstFault_5 : decode cX9_firstFault 5 = .ok (.getfield 15, 3) := by decide +kernel
theorem dX9_firstFault_8 : decode cX9_firstFault 8 = .ok (.invokestatic 45, 3) := by decide +kernel
theorem dX9_firstFault_11 : decode cX9_firstFault 11 = .ok (.if_icmp .ge 24, 3) := by decide +kernel
theorem dX9_firstFault_14 : decode cX9_firstFault 14 = .ok (.aload_n 0, 1) := by decide +kernel
theorem dX9_firstFault_15 : decode cX9_firstFault 15 = .ok (.iload_n 1, 1) := by decide +kernel
theorem dX9_firstFault_16 : decode cX9_firstFault 16 = .ok (.iload_n 3, 1) := by decide +kernel
theorem dX9_firstFault_17 : decode cX9_firstFault 17 = .ok (.invokevirtual 48, 3) := by decide +kernel
theorem dX9_firstFault_20 : decode cX9_firstFault 20 = .ok (.iload_n 2, 1) := by decide +kernel
theorem dX9_firstFault_21 : decode cX9_firstFault 21 = .ok (.invokestatic 52, 3) := by decide +kernel
theorem dX9_firstFault_24 : decode cX9_firstFault 24 = .ok (.ifCond .eq 5, 3) := by decide +kernel
theorem dX9_firstFault_27 : decode cX9_firstFault 27 = .ok (.iload_n 3, 1) := by decide +kernel
theorem dX9_firstFault_28 : decode cX9_firstFault 28 = .ok (.ireturn, 1) := by decide +kernel
theorem dX9_firstFault_29 : decode cX9_firstFault 29 = .ok (.iinc 3 1, 3) := by decide +kernel
theorem dX9_firstFault_32 : decode cX9_firstFault 32 = .ok (.goto (-30), 3) := by decide +kernel
theorem dX9_firstFault_35 : decode cX9_firstFault 35 = .ok (.bipush (-9), 2) := by decide +kernel
theorem dX9_firstFault_37 : decode cX9_firstFault 37 = .ok (.ireturn, 1) := by decide +kernel
theorem dX9_leastLift_0 : decode cX9_leastLift 0 = .ok (.iconst 0, 1) := by decide +kernel
theorem dX9_leastLift_1 : decode cX9_leastLift 1 = .ok (.istore_n 3, 1) := by decide +kernel
theorem dX9_leastLift_2 : decode cX9_leastLift 2 = .ok (.iload_n 3, 1) := by decide +kernel
theorem dX9_leastLift_3 : decode cX9_leastLift 3 = .ok (.bipush 12, 2) := by decide +kernel
theorem dX9_leastLift_5 : decode cX9_leastLift 5 = .ok (.if_icmp .gt 31, 3) := by decide +kernel
theorem dX9_leastLift_8 : decode cX9_leastLift 8 = .ok (.iload_n 3, 1) := by decide +kernel
theorem dX9_leastLift_9 : decode cX9_leastLift 9 = .ok (.ifCond .le 8, 3) := by decide +kernel
theorem dX9_leastLift_12 : decode cX9_leastLift 12 = .ok (.aload_n 0, 1) := by decide +kernel
theorem dX9_leastLift_13 : decode cX9_leastLift 13 = .ok (.iload_n 1, 1) := by decide +kernel
theorem dX9_leastLift_14 : decode cX9_leastLift 14 = .ok (.invokevirtual 38, 3) := by decide +kernel
theorem dX9_leastLift_17 : decode cX9_leastLift 17 = .ok (.aload_n 0, 1) := by decide +kernel
theorem dX9_leastLift_18 : decode cX9_leastLift 18 = .ok (.iload_n 1, 1) := by decide +kernel
theorem dX9_leastLift_19 : decode cX9_leastLift 19 = .ok (.iload_n 2, 1) := by decide +kernel
theorem dX9_leastLift_20 : decode cX9_leastLift 20 = .ok (.invokevirtual 56, 3) := by decide +kernel
theorem dX9_leastLift_23 : decode cX9_leastLift 23 = .ok (.bipush (-9), 2) := by decide +kernel
theorem dX9_leastLift_25 : decode cX9_leastLift 25 = .ok (.if_icmp .ne 5, 3) := by decide +kernel
theorem dX9_leastLift_28 : decode cX9_leastLift 28 = .ok (.iload_n 3, 1) := by decide +kernel
theorem dX9_leastLift_29 : decode cX9_leastLift 29 = .ok (.ireturn, 1) := by decide +kernel
theorem dX9_leastLift_30 : decode cX9_leastLift 30 = .ok (.iinc 3 1, 3) := by decide +kernel
theorem dX9_leastLift_33 : decode cX9_leastLift 33 = .ok (.goto (-31), 3) := by decide +kernel
theorem dX9_leastLift_36 : decode cX9_leastLift 36 = .ok (.bipush (-9), 2) := by decide +kernel
theorem dX9_leastLift_38 : decode cX9_leastLift 38 = .ok (.ireturn, 1) := by decide +kernel
theorem dX9_worth_0 : decode cX9_worth 0 = .ok (.lconst 0, 1) := by decide +kernel
theorem dX9_worth_1 : decode cX9_worth 1 = .ok (.lstore 4, 2) := by decide +kernel
theorem dX9_worth_3 : decode cX9_worth 3 = .ok (.iconst 0, 1) := by decide +kernel
theorem dX9_worth_4 : decode cX9_worth 4 = .ok (.istore 6, 2) := by decide +kernel
theorem dX9_worth_6 : decode cX9_worth 6 = .ok (.iconst 0, 1) := by decide +kernel
theorem dX9_worth_7 : decode cX9_worth 7 = .ok (.istore 7, 2) := by decide +kernel
theorem dX9_worth_9 : decode cX9_worth 9 = .ok (.iload 7, 2) := by decide +kernel
theorem dX9_worth_11 : decode cX9_worth 11 = .ok (.aload_n 0, 1) := by decide +kernel
theorem dX9_worth_12 : decode cX9_worth 12 = .ok (.getfield 15, 3) := by decide +kernel
theorem dX9_worth_15 : decode cX9_worth 15 = .ok (.if_icmp .gt 69, 3) := by decide +kernel
theorem dX9_worth_18 : decode cX9_worth 18 = .ok (.lconst 0, 1) := by decide +kernel
theorem dX9_worth_19 : decode cX9_worth 19 = .ok (.lstore 8, 2) := by decide +kernel
theorem dX9_worth_21 : decode cX9_worth 21 = .ok (.lconst 1, 1) := by decide +kernel
theorem dX9_worth_22 : decode cX9_worth 22 = .ok (.lstore 10, 2) := by decide +kernel
theorem dX9_worth_24 : decode cX9_worth 24 = .ok (.iconst 0, 1) := by decide +kernel
theorem dX9_worth_25 : decode cX9_worth 25 = .ok (.istore 12, 2) := by decide +kernel
theorem dX9_worth_27 : decode cX9_worth 27 = .ok (.iload 12, 2) := by decide +kernel
theorem dX9_worth_29 : decode cX9_worth 29 = .ok (.iload 7, 2) := by decide +kernel
theorem dX9_worth_31 : decode cX9_worth 31 = .ok (.if_icmp .gt 37, 3) := by decide +kernel
theorem dX9_worth_34 : decode cX9_worth 34 = .ok (.lload 8, 2) := by decide +kernel
theorem dX9_worth_36 : decode cX9_worth 36 = .ok (.iload_n 2, 1) := by decide +kernel
theorem dX9_worth_37 : decode cX9_worth 37 = .ok (.i2l, 1) := by decide +kernel
theorem dX9_worth_38 : decode cX9_worth 38 = .ok (.lmul, 1) := by decide +kernel
theorem dX9_worth_39 : decode cX9_worth 39 = .ok (.aload_n 0, 1) := by decide +kernel
theorem dX9_worth_40 : decode cX9_worth 40 = .ok (.getfield 9, 3) := by decide +kernel
theorem dX9_worth_43 : decode cX9_worth 43 = .ok (.iload 6, 2) := by decide +kernel
theorem dX9_worth_45 : decode cX9_worth 45 = .ok (.laload, 1) := by decide +kernel
theorem dX9_worth_46 : decode cX9_worth 46 = .ok (.lload 10, 2) := by decide +kernel
theorem dX9_worth_48 : decode cX9_worth 48 = .ok (.lmul, 1) := by decide +kernel
theorem dX9_worth_49 : decode cX9_worth 49 = .ok (.ladd, 1) := by decide +kernel
theorem dX9_worth_50 : decode cX9_worth 50 = .ok (.lstore 8, 2) := by decide +kernel
theorem dX9_worth_52 : decode cX9_worth 52 = .ok (.lload 10, 2) := by decide +kernel
theorem dX9_worth_54 : decode cX9_worth 54 = .ok (.iload_n 3, 1) := by decide +kernel
theorem dX9_worth_55 : decode cX9_worth 55 = .ok (.i2l, 1) := by decide +kernel
theorem dX9_worth_56 : decode cX9_worth 56 = .ok (.lmul, 1) := by decide +kernel
theorem dX9_worth_57 : decode cX9_worth 57 = .ok (.lstore 10, 2) := by decide +kernel
theorem dX9_worth_59 : decode cX9_worth 59 = .ok (.iinc 6 1, 3) := by decide +kernel
theorem dX9_worth_62 : decode cX9_worth 62 = .ok (.iinc 12 1, 3) := by decide +kernel
theorem dX9_worth_65 : decode cX9_worth 65 = .ok (.goto (-38), 3) := by decide +kernel
theorem dX9_worth_68 : decode cX9_worth 68 = .ok (.lload 4, 2) := by decide +kernel
theorem dX9_worth_70 : decode cX9_worth 70 = .ok (.iload_n 1, 1) := by decide +kernel
theorem dX9_worth_71 : decode cX9_worth 71 = .ok (.i2l, 1) := by decide +kernel
theorem dX9_worth_72 : decode cX9_worth 72 = .ok (.lmul, 1) := by decide +kernel
theorem dX9_worth_73 : decode cX9_worth 73 = .ok (.lload 8, 2) := by decide +kernel
theorem dX9_worth_75 : decode cX9_worth 75 = .ok (.ladd, 1) := by decide +kernel
theorem dX9_worth_76 : decode cX9_worth 76 = .ok (.lstore 4, 2) := by decide +kernel
theorem dX9_worth_78 : decode cX9_worth 78 = .ok (.iinc 7 1, 3) := by decide +kernel
theorem dX9_worth_81 : decode cX9_worth 81 = .ok (.goto (-72), 3) := by decide +kernel
theorem dX9_worth_84 : decode cX9_worth 84 = .ok (.lload 4, 2) := by decide +kernel
theorem dX9_worth_86 : decode cX9_worth 86 = .ok (.lreturn, 1) := by decide +kernel
theorem dX9_worthAt_0 : decode cX9_worthAt 0 = .ok (.iload_n 1, 1) := by decide +kernel
theorem dX9_worthAt_1 : decode cX9_worthAt 1 = .ok (.iload_n 2, 1) := by decide +kernel
theorem dX9_worthAt_2 : decode cX9_worthAt 2 = .ok (.iload_n 3, 1) := by decide +kernel
theorem dX9_worthAt_3 : decode cX9_worthAt 3 = .ok (.invokestatic 42, 3) := by decide +kernel
theorem dX9_worthAt_6 : decode cX9_worthAt 6 = .ok (.istore 4, 2) := by decide +kernel
theorem dX9_worthAt_8 : decode cX9_worthAt 8 = .ok (.iload 4, 2) := by decide +kernel
theorem dX9_worthAt_10 : decode cX9_worthAt 10 = .ok (.invokestatic 59, 3) := by decide +kernel
theorem dX9_worthAt_13 : decode cX9_worthAt 13 = .ok (.istore 5, 2) := by decide +kernel
theorem dX9_worthAt_15 : decode cX9_worthAt 15 = .ok (.iload 4, 2) := by decide +kernel
theorem dX9_worthAt_17 : decode cX9_worthAt 17 = .ok (.iload 5, 2) := by decide +kernel
theorem dX9_worthAt_19 : decode cX9_worthAt 19 = .ok (.iconst 0, 1) := by decide +kernel
theorem dX9_worthAt_20 : decode cX9_worthAt 20 = .ok (.invokestatic 26, 3) := by decide +kernel
theorem dX9_worthAt_23 : decode cX9_worthAt 23 = .ok (.isub, 1) := by decide +kernel
theorem dX9_worthAt_24 : decode cX9_worthAt 24 = .ok (.istore 6, 2) := by decide +kernel
theorem dX9_worthAt_26 : decode cX9_worthAt 26 = .ok (.aload_n 0, 1) := by decide +kernel
theorem dX9_worthAt_27 : decode cX9_worthAt 27 = .ok (.iload_n 2, 1) := by decide +kernel
theorem dX9_worthAt_28 : decode cX9_worthAt 28 = .ok (.iload 5, 2) := by decide +kernel
theorem dX9_worthAt_30 : decode cX9_worthAt 30 = .ok (.isub, 1) := by decide +kernel
theorem dX9_worthAt_31 : decode cX9_worthAt 31 = .ok (.iload 5, 2) := by decide +kernel
theorem dX9_worthAt_33 : decode cX9_worthAt 33 = .ok (.iload 6, 2) := by decide +kernel
theorem dX9_worthAt_35 : decode cX9_worthAt 35 = .ok (.isub, 1) := by decide +kernel
theorem dX9_worthAt_36 : decode cX9_worthAt 36 = .ok (.iload 6, 2) := by decide +kernel
theorem dX9_worthAt_38 : decode cX9_worthAt 38 = .ok (.invokevirtual 62, 3) := by decide +kernel
theorem dX9_worthAt_41 : decode cX9_worthAt 41 = .ok (.lreturn, 1) := by decide +kernel
theorem dX9_failingPoint_0 : decode cX9_failingPoint 0 = .ok (.iconst 0, 1) := by decide +kernel
theorem dX9_failingPoint_1 : decode cX9_failingPoint 1 = .ok (.istore 4, 2) := by decide +kernel
theorem dX9_failingPoint_3 : decode cX9_failingPoint 3 = .ok (.iload 4, 2) := by decide +kernel
theorem dX9_failingPoint_5 : decode cX9_failingPoint 5 = .ok (.iload_n 1, 1) := by decide +kernel
theorem dX9_failingPoint_6 : decode cX9_failingPoint 6 = .ok (.iload_n 3, 1) := by decide +kernel
theorem dX9_failingPoint_7 : decode cX9_failingPoint 7 = .ok (.invokestatic 45, 3) := by decide +kernel
theorem dX9_failingPoint_10 : decode cX9_failingPoint 10 = .ok (.if_icmp .ge 27, 3) := by decide +kernel
theorem dX9_failingPoint_13 : decode cX9_failingPoint 13 = .ok (.aload_n 0, 1) := by decide +kernel
theorem dX9_failingPoint_14 : decode cX9_failingPoint 14 = .ok (.iload_n 1, 1) := by decide +kernel
theorem dX9_failingPoint_15 : decode cX9_failingPoint 15 = .ok (.iload_n 3, 1) := by decide +kernel
theorem dX9_failingPoint_16 : decode cX9_failingPoint 16 = .ok (.iload 4, 2) := by decide +kernel
theorem dX9_failingPoint_18 : decode cX9_failingPoint 18 = .ok (.invokevirtual 69, 3) := by decide +kernel
theorem dX9_failingPoint_21 : decode cX9_failingPoint 21 = .ok (.iload_n 2, 1) := by decide +kernel
theorem dX9_failingPoint_22 : decode cX9_failingPoint 22 = .ok (.invokestatic 52, 3) := by decide +kernel
theorem dX9_failingPoint_25 : decode cX9_failingPoint 25 = .ok (.ifCond .eq 6, 3) := by decide +kernel
theorem dX9_failingPoint_28 : decode cX9_failingPoint 28 = .ok (.iload 4, 2) := by decide +kernel
theorem dX9_failingPoint_30 : decode cX9_failingPoint 30 = .ok (.ireturn, 1) := by decide +kernel
theorem dX9_failingPoint_31 : decode cX9_failingPoint 31 = .ok (.iinc 4 1, 3) := by decide +kernel
theorem dX9_failingPoint_34 : decode cX9_failingPoint 34 = .ok (.goto (-31), 3) := by decide +kernel
theorem dX9_failingPoint_37 : decode cX9_failingPoint 37 = .ok (.bipush (-9), 2) := by decide +kernel
theorem dX9_failingPoint_39 : decode cX9_failingPoint 39 = .ok (.ireturn, 1) := by decide +kernel
theorem dX9_failingSize_0 : decode cX9_failingSize 0 = .ok (.iconst 1, 1) := by decide +kernel
theorem dX9_failingSize_1 : decode cX9_failingSize 1 = .ok (.istore_n 3, 1) := by decide +kernel
theorem dX9_failingSize_2 : decode cX9_failingSize 2 = .ok (.iload_n 3, 1) := by decide +kernel
theorem dX9_failingSize_3 : decode cX9_failingSize 3 = .ok (.bipush 12, 2) := by decide +kernel
theorem dX9_failingSize_5 : decode cX9_failingSize 5 = .ok (.if_icmp .gt 23, 3) := by decide +kernel
theorem dX9_failingSize_8 : decode cX9_failingSize 8 = .ok (.aload_n 0, 1) := by decide +kernel
theorem dX9_failingSize_9 : decode cX9_failingSize 9 = .ok (.iload_n 1, 1) := by decide +kernel
theorem dX9_failingSize_10 : decode cX9_failingSize 10 = .ok (.iload_n 2, 1) := by decide +kernel
theorem dX9_failingSize_11 : decode cX9_failingSize 11 = .ok (.iload_n 3, 1) := by decide +kernel
theorem dX9_failingSize_12 : decode cX9_failingSize 12 = .ok (.invokevirtual 66, 3) := by decide +kernel
theorem dX9_failingSize_15 : decode cX9_failingSize 15 = .ok (.bipush (-9), 2) := by decide +kernel
theorem dX9_failingSize_17 : decode cX9_failingSize 17 = .ok (.if_icmp .eq 5, 3) := by decide +kernel
theorem dX9_failingSize_20 : decode cX9_failingSize 20 = .ok (.iload_n 3, 1) := by decide +kernel
theorem dX9_failingSize_21 : decode cX9_failingSize 21 = .ok (.ireturn, 1) := by decide +kernel
theorem dX9_failingSize_22 : decode cX9_failingSize 22 = .ok (.iinc 3 1, 3) := by decide +kernel
theorem dX9_failingSize_25 : decode cX9_failingSize 25 = .ok (.goto (-23), 3) := by decide +kernel
theorem dX9_failingSize_28 : decode cX9_failingSize 28 = .ok (.bipush (-9), 2) := by decide +kernel
theorem dX9_failingSize_30 : decode cX9_failingSize 30 = .ok (.ireturn, 1) := by decide +kernel
theorem dX9_lowestPoint_0 : decode cX9_lowestPoint 0 = .ok (.iconst 0, 1) := by decide +kernel
theorem dX9_lowestPoint_1 : decode cX9_lowestPoint 1 = .ok (.istore_n 3, 1) := by decide +kernel
theorem dX9_lowestPoint_2 : decode cX9_lowestPoint 2 = .ok (.aload_n 0, 1) := by decide +kernel
theorem dX9_lowestPoint_3 : decode cX9_lowestPoint 3 = .ok (.iload_n 1, 1) := by decide +kernel
theorem dX9_lowestPoint_4 : decode cX9_lowestPoint 4 = .ok (.iload_n 2, 1) := by decide +kernel
theorem dX9_lowestPoint_5 : decode cX9_lowestPoint 5 = .ok (.iconst 0, 1) := by decide +kernel
theorem dX9_lowestPoint_6 : decode cX9_lowestPoint 6 = .ok (.invokevirtual 69, 3) := by decide +kernel
theorem dX9_lowestPoint_9 : decode cX9_lowestPoint 9 = .ok (.lstore 4, 2) := by decide +kernel
theorem dX9_lowestPoint_11 : decode cX9_lowestPoint 11 = .ok (.iconst 1, 1) := by decide +kernel
theorem dX9_lowestPoint_12 : decode cX9_lowestPoint 12 = .ok (.istore 6, 2) := by decide +kernel
theorem dX9_lowestPoint_14 : decode cX9_lowestPoint 14 = .ok (.iload 6, 2) := by decide +kernel
theorem dX9_lowestPoint_16 : decode cX9_lowestPoint 16 = .ok (.iload_n 1, 1) := by decide +kernel
theorem dX9_lowestPoint_17 : decode cX9_lowestPoint 17 = .ok (.iload_n 2, 1) := by decide +kernel
theorem dX9_lowestPoint_18 : decode cX9_lowestPoint 18 = .ok (.invokestatic 45, 3) := by decide +kernel
theorem dX9_lowestPoint_21 : decode cX9_lowestPoint 21 = .ok (.if_icmp .ge 34, 3) := by decide +kernel
theorem dX9_lowestPoint_24 : decode cX9_lowestPoint 24 = .ok (.aload_n 0, 1) := by decide +kernel
theorem dX9_lowestPoint_25 : decode cX9_lowestPoint 25 = .ok (.iload_n 1, 1) := by decide +kernel
theorem dX9_lowestPoint_26 : decode cX9_lowestPoint 26 = .ok (.iload_n 2, 1) := by decide +kernel
theorem dX9_lowestPoint_27 : decode cX9_lowestPoint 27 = .ok (.iload 6, 2) := by decide +kernel
theorem dX9_lowestPoint_29 : decode cX9_lowestPoint 29 = .ok (.invokevirtual 69, 3) := by decide +kernel
theorem dX9_lowestPoint_32 : decode cX9_lowestPoint 32 = .ok (.lstore 7, 2) := by decide +kernel
theorem dX9_lowestPoint_34 : decode cX9_lowestPoint 34 = .ok (.lload 7, 2) := by decide +kernel
theorem dX9_lowestPoint_36 : decode cX9_lowestPoint 36 = .ok (.lload 4, 2) := by decide +kernel
theorem dX9_lowestPoint_38 : decode cX9_lowestPoint 38 = .ok (.lcmp, 1) := by decide +kernel
theorem dX9_lowestPoint_39 : decode cX9_lowestPoint 39 = .ok (.ifCond .ge 10, 3) := by decide +kernel
theorem dX9_lowestPoint_42 : decode cX9_lowestPoint 42 = .ok (.iload 6, 2) := by decide +kernel
theorem dX9_lowestPoint_44 : decode cX9_lowestPoint 44 = .ok (.istore_n 3, 1) := by decide +kernel
theorem dX9_lowestPoint_45 : decode cX9_lowestPoint 45 = .ok (.lload 7, 2) := by decide +kernel
theorem dX9_lowestPoint_47 : decode cX9_lowestPoint 47 = .ok (.lstore 4, 2) := by decide +kernel
theorem dX9_lowestPoint_49 : decode cX9_lowestPoint 49 = .ok (.iinc 6 1, 3) := by decide +kernel
theorem dX9_lowestPoint_52 : decode cX9_lowestPoint 52 = .ok (.goto (-38), 3) := by decide +kernel
theorem dX9_lowestPoint_55 : decode cX9_lowestPoint 55 = .ok (.iload_n 3, 1) := by decide +kernel
theorem dX9_lowestPoint_56 : decode cX9_lowestPoint 56 = .ok (.ireturn, 1) := by decide +kernel
theorem dX10_refuse_0 : decode cX10_refuse 0 = .ok (.iload_n 1, 1) := by decide +kernel
theorem dX10_refuse_1 : decode cX10_refuse 1 = .ok (.ifCond .ge 20, 3) := by decide +kernel
theorem dX10_refuse_4 : decode cX10_refuse 4 = .ok (.iload_n 1, 1) := by decide +kernel
theorem dX10_refuse_5 : decode cX10_refuse 5 = .ok (.bipush (-6), 2) := by decide +kernel
theorem dX10_refuse_7 : decode cX10_refuse 7 = .ok (.if_icmp .lt 14, 3) := by decide +kernel
theorem dX10_refuse_10 : decode cX10_refuse 10 = .ok (.aload_n 0, 1) := by decide +kernel
theorem dX10_refuse_11 : decode cX10_refuse 11 = .ok (.getfield 65, 3) := by decide +kernel
theorem dX10_refuse_14 : decode cX10_refuse 14 = .ok (.iload_n 1, 1) := by decide +kernel
theorem dX10_refuse_15 : decode cX10_refuse 15 = .ok (.ineg, 1) := by decide +kernel
theorem dX10_refuse_16 : decode cX10_refuse 16 = .ok (.dup2, 1) := by decide +kernel
theorem dX10_refuse_17 : decode cX10_refuse 17 = .ok (.iaload, 1) := by decide +kernel
theorem dX10_refuse_18 : decode cX10_refuse 18 = .ok (.iconst 1, 1) := by decide +kernel
theorem dX10_refuse_19 : decode cX10_refuse 19 = .ok (.iadd, 1) := by decide +kernel
theorem dX10_refuse_20 : decode cX10_refuse 20 = .ok (.iastore, 1) := by decide +kernel
theorem dX10_refuse_21 : decode cX10_refuse 21 = .ok (.iload_n 1, 1) := by decide +kernel
theorem dX10_refuse_22 : decode cX10_refuse 22 = .ok (.ireturn, 1) := by decide +kernel
theorem dX10_letter_0 : decode cX10_letter 0 = .ok (.iload_n 1, 1) := by decide +kernel
theorem dX10_letter_1 : decode cX10_letter 1 = .ok (.ifCond .ge 10, 3) := by decide +kernel
theorem dX10_letter_4 : decode cX10_letter 4 = .ok (.aload_n 0, 1) := by decide +kernel
theorem dX10_letter_5 : decode cX10_letter 5 = .ok (.bipush (-4), 2) := by decide +kernel
theorem dX10_letter_7 : decode cX10_letter 7 = .ok (.invokevirtual 69, 3) := by decide +kernel
theorem dX10_letter_10 : decode cX10_letter 10 = .ok (.ireturn, 1) := by decide +kernel
theorem dX10_letter_11 : decode cX10_letter 11 = .ok (.iload_n 1, 1) := by decide +kernel
theorem dX10_letter_12 : decode cX10_letter 12 = .ok (.sipush 255, 3) := by decide +kernel
theorem dX10_letter_15 : decode cX10_letter 15 = .ok (.if_icmp .gt 15, 3) := by decide +kernel
theorem dX10_letter_18 : decode cX10_letter 18 = .ok (.aload_n 0, 1) := by decide +kernel
theorem dX10_letter_19 : decode cX10_letter 19 = .ok (.getfield 19, 3) := by decide +kernel
theorem dX10_letter_22 : decode cX10_letter 22 = .ok (.getfield 73, 3) := by decide +kernel
theorem dX10_letter_25 : decode cX10_letter 25 = .ok (.bipush 72, 2) := by decide +kernel
theorem dX10_letter_27 : decode cX10_letter 27 = .ok (.if_icmp .lt 10, 3) := by decide +kernel
theorem dX10_letter_30 : decode cX10_letter 30 = .ok (.aload_n 0, 1) := by decide +kernel
theorem dX10_letter_31 : decode cX10_letter 31 = .ok (.bipush (-6), 2) := by decide +kernel
theorem dX10_letter_33 : decode cX10_letter 33 = .ok (.invokevirtual 69, 3) := by decide +kernel
theorem dX10_letter_36 : decode cX10_letter 36 = .ok (.ireturn, 1) := by decide +kernel
theorem dX10_letter_37 : decode cX10_letter 37 = .ok (.aload_n 0, 1) := by decide +kernel
theorem dX10_letter_38 : decode cX10_letter 38 = .ok (.getfield 19, 3) := by decide +kernel
theorem dX10_letter_41 : decode cX10_letter 41 = .ok (.iload_n 1, 1) := by decide +kernel
theorem dX10_letter_42 : decode cX10_letter 42 = .ok (.invokevirtual 77, 3) := by decide +kernel
theorem dX10_letter_45 : decode cX10_letter 45 = .ok (.aload_n 0, 1) := by decide +kernel
theorem dX10_letter_46 : decode cX10_letter 46 = .ok (.getfield 19, 3) := by decide +kernel
theorem dX10_letter_49 : decode cX10_letter 49 = .ok (.getfield 73, 3) := by decide +kernel
theorem dX10_letter_52 : decode cX10_letter 52 = .ok (.ireturn, 1) := by decide +kernel
theorem dX10_cameOr_0 : decode cX10_cameOr 0 = .ok (.iload_n 1, 1) := by decide +kernel
theorem dX10_cameOr_1 : decode cX10_cameOr 1 = .ok (.ifCond .ne 10, 3) := by decide +kernel
theorem dX10_cameOr_4 : decode cX10_cameOr 4 = .ok (.aload_n 0, 1) := by decide +kernel
theorem dX10_cameOr_5 : decode cX10_cameOr 5 = .ok (.bipush (-6), 2) := by decide +kernel
theorem dX10_cameOr_7 : decode cX10_cameOr 7 = .ok (.invokevirtual 69, 3) := by decide +kernel
theorem dX10_cameOr_10 : decode cX10_cameOr 10 = .ok (.ireturn, 1) := by decide +kernel
theorem dX10_cameOr_11 : decode cX10_cameOr 11 = .ok (.aload_n 0, 1) := by decide +kernel
theorem dX10_cameOr_12 : decode cX10_cameOr 12 = .ok (.getfield 54, 3) := by decide +kernel
theorem dX10_cameOr_15 : decode cX10_cameOr 15 = .ok (.iconst 0, 1) := by decide +kernel
theorem dX10_cameOr_16 : decode cX10_cameOr 16 = .ok (.putfield 105, 3) := by decide +kernel
theorem dX10_cameOr_19 : decode cX10_cameOr 19 = .ok (.aload_n 0, 1) := by decide +kernel
theorem dX10_cameOr_20 : decode cX10_cameOr 20 = .ok (.getfield 10, 3) := by decide +kernel
theorem dX10_cameOr_23 : decode cX10_cameOr 23 = .ok (.getfield 89, 3) := by decide +kernel
theorem dX10_cameOr_26 : decode cX10_cameOr 26 = .ok (.iconst 1, 1) := by decide +kernel
theorem dX10_cameOr_27 : decode cX10_cameOr 27 = .ok (.isub, 1) := by decide +kernel
theorem dX10_cameOr_28 : decode cX10_cameOr 28 = .ok (.ireturn, 1) := by decide +kernel
theorem dX10_form_0 : decode cX10_form 0 = .ok (.aload_n 0, 1) := by decide +kernel
theorem dX10_form_1 : decode cX10_form 1 = .ok (.getfield 10, 3) := by decide +kernel
theorem dX10_form_4 : decode cX10_form 4 = .ok (.invokevirtual 81, 3) := by decide +kernel
theorem dX10_form_7 : decode cX10_form 7 = .ok (.ifCond .eq 10, 3) := by decide +kernel
theorem dX10_form_10 : decode cX10_form 10 = .ok (.aload_n 0, 1) := by decide +kernel
theorem dX10_form_11 : decode cX10_form 11 = .ok (.bipush (-6), 2) := by decide +kernel
theorem dX10_form_13 : decode cX10_form 13 = .ok (.invokevirtual 69, 3) := by decide +kernel
theorem dX10_form_16 : decode cX10_form 16 = .ok (.ireturn, 1) := by decide +kernel
theorem dX10_form_17 : decode cX10_form 17 = .ok (.aload_n 0, 1) := by decide +kernel
theorem dX10_form_18 : decode cX10_form 18 = .ok (.getfield 26, 3) := by decide +kernel
theorem dX10_form_21 : decode cX10_form 21 = .ok (.aload_n 0, 1) := by decide +kernel
theorem dX10_form_22 : decode cX10_form 22 = .ok (.getfield 19, 3) := by decide +kernel
theorem dX10_form_25 : decode cX10_form 25 = .ok (.aload_n 0, 1) := by decide +kernel
theorem dX10_form_26 : decode cX10_form 26 = .ok (.getfield 10, 3) := by decide +kernel
theorem dX10_form_29 : decode cX10_form 29 = .ok (.getfield 85, 3) := by decide +kernel
theorem dX10_form_32 : decode cX10_form 32 = .ok (.aload_n 0, 1) := by decide +kernel
theorem dX10_form_33 : decode cX10_form 33 = .ok (.getfield 10, 3) := by decide +kernel
theorem dX10_form_36 : decode cX10_form 36 = .ok (.getfield 89, 3) := by decide +kernel
theorem dX10_form_39 : decode cX10_form 39 = .ok (.aaload, 1) := by decide +kernel
theorem dX10_form_40 : decode cX10_form 40 = .ok (.invokevirtual 90, 3) := by decide +kernel
theorem dX10_form_43 : decode cX10_form 43 = .ok (.istore_n 1, 1) := by decide +kernel
theorem dX10_form_44 : decode cX10_form 44 = .ok (.aload_n 0, 1) := by decide +kernel
theorem dX10_form_45 : decode cX10_form 45 = .ok (.getfield 19, 3) := by decide +kernel
theorem dX10_form_48 : decode cX10_form 48 = .ok (.iconst 0, 1) := by decide +kernel
theorem dX10_form_49 : decode cX10_form 49 = .ok (.putfield 73, 3) := by decide +kernel
theorem dX10_form_52 : decode cX10_form 52 = .ok (.iload_n 1, 1) := by decide +kernel
theorem dX10_form_53 : decode cX10_form 53 = .ok (.iconst (-1), 1) := by decide +kernel
theorem dX10_form_54 : decode cX10_form 54 = .ok (.if_icmp .eq 9, 3) := by decide +kernel
theorem dX10_form_57 : decode cX10_form 57 = .ok (.sipush (-1000), 3) := by decide +kernel
theorem dX10_form_60 : decode cX10_form 60 = .ok (.iload_n 1, 1) := by decide +kernel
theorem dX10_form_61 : decode cX10_form 61 = .ok (.isub, 1) := by decide +kernel
theorem dX10_form_62 : decode cX10_form 62 = .ok (.ireturn, 1) := by decide +kernel
theorem dX10_form_63 : decode cX10_form 63 = .ok (.aload_n 0, 1) := by decide +kernel
theorem dX10_form_64 : decode cX10_form 64 = .ok (.getfield 10, 3) := by decide +kernel
theorem dX10_form_67 : decode cX10_form 67 = .ok (.dup, 1) := by decide +kernel
theorem dX10_form_68 : decode cX10_form 68 = .ok (.getfield 89, 3) := by decide +kernel
theorem dX10_form_71 : decode cX10_form 71 = .ok (.iconst 1, 1) := by decide +kernel
theorem dX10_form_72 : decode cX10_form 72 = .ok (.iadd, 1) := by decide +kernel
theorem dX10_form_73 : decode cX10_form 73 = .ok (.putfield 89, 3) := by decide +kernel
theorem dX10_form_76 : decode cX10_form 76 = .ok (.aload_n 0, 1) := by decide +kernel
theorem dX10_form_77 : decode cX10_form 77 = .ok (.iconst 1, 1) := by decide +kernel
theorem dX10_form_78 : decode cX10_form 78 = .ok (.invokevirtual 94, 3) := by decide +kernel
theorem dX10_form_81 : decode cX10_form 81 = .ok (.ireturn, 1) := by decide +kernel
theorem dX10_drop_0 : decode cX10_drop 0 = .ok (.aload_n 0, 1) := by decide +kernel
theorem dX10_drop_1 : decode cX10_drop 1 = .ok (.getfield 10, 3) := by decide +kernel
theorem dX10_drop_4 : decode cX10_drop 4 = .ok (.getfield 89, 3) := by decide +kernel
theorem dX10_drop_7 : decode cX10_drop 7 = .ok (.ifCond .gt 10, 3) := by decide +kernel
theorem dX10_drop_10 : decode cX10_drop 10 = .ok (.aload_n 0, 1) := by decide +kernel
theorem dX10_drop_11 : decode cX10_drop 11 = .ok (.bipush (-3), 2) := by decide +kernel
theorem dX10_drop_13 : decode cX10_drop 13 = .ok (.invokevirtual 69, 3) := by decide +kernel
theorem dX10_drop_16 : decode cX10_drop 16 = .ok (.ireturn, 1) := by decide +kernel
theorem dX10_drop_17 : decode cX10_drop 17 = .ok (.aload_n 0, 1) := by decide +kernel
theorem dX10_drop_18 : decode cX10_drop 18 = .ok (.getfield 10, 3) := by decide +kernel
theorem dX10_drop_21 : decode cX10_drop 21 = .ok (.dup, 1) := by decide +kernel
theorem dX10_drop_22 : decode cX10_drop 22 = .ok (.getfield 89, 3) := by decide +kernel
theorem dX10_drop_25 : decode cX10_drop 25 = .ok (.iconst 1, 1) := by decide +kernel
theorem dX10_drop_26 : decode cX10_drop 26 = .ok (.isub, 1) := by decide +kernel
theorem dX10_drop_27 : decode cX10_drop 27 = .ok (.putfield 89, 3) := by decide +kernel
theorem dX10_drop_30 : decode cX10_drop 30 = .ok (.aload_n 0, 1) := by decide +kernel
theorem dX10_drop_31 : decode cX10_drop 31 = .ok (.getfield 54, 3) := by decide +kernel
theorem dX10_drop_34 : decode cX10_drop 34 = .ok (.iconst 0, 1) := by decide +kernel
theorem dX10_drop_35 : decode cX10_drop 35 = .ok (.putfield 105, 3) := by decide +kernel
theorem dX10_drop_38 : decode cX10_drop 38 = .ok (.aload_n 0, 1) := by decide +kernel
theorem dX10_drop_39 : decode cX10_drop 39 = .ok (.getfield 10, 3) := by decide +kernel
theorem dX10_drop_42 : decode cX10_drop 42 = .ok (.getfield 89, 3) := by decide +kernel
theorem dX10_drop_45 : decode cX10_drop 45 = .ok (.ireturn, 1) := by decide +kernel
theorem dX10_lacksTerm_0 : decode cX10_lacksTerm 0 = .ok (.iload_n 2, 1) := by decide +kernel
theorem dX10_lacksTerm_1 : decode cX10_lacksTerm 1 = .ok (.aload_n 0, 1) := by decide +kernel
theorem dX10_lacksTerm_2 : decode cX10_lacksTerm 2 = .ok (.getfield 10, 3) := by decide +kernel
theorem dX10_lacksTerm_5 : decode cX10_lacksTerm 5 = .ok (.getfield 85, 3) := by decide +kernel
theorem dX10_lacksTerm_8 : decode cX10_lacksTerm 8 = .ok (.iload_n 1, 1) := by decide +kernel
theorem dX10_lacksTerm_9 : decode cX10_lacksTerm 9 = .ok (.aaload, 1) := by decide +kernel
theorem dX10_lacksTerm_10 : decode cX10_lacksTerm 10 = .ok (.getfield 137, 3) := by decide +kernel
theorem dX10_lacksTerm_13 : decode cX10_lacksTerm 13 = .ok (.invokestatic 140, 3) := by decide +kernel
theorem dX10_lacksTerm_16 : decode cX10_lacksTerm 16 = .ok (.invokestatic 128, 3) := by decide +kernel
theorem dX10_lacksTerm_19 : decode cX10_lacksTerm 19 = .ok (.ireturn, 1) := by decide +kernel
theorem dX10_refuseFarInt_0 : decode cX10_refuseFarInt 0 = .ok (.ldc_w 300, 3) := by decide +kernel
theorem dX10_refuseFarInt_3 : decode cX10_refuseFarInt 3 = .ok (.aload_n 0, 1) := by decide +kernel
theorem dX10_refuseFarInt_4 : decode cX10_refuseFarInt 4 = .ok (.iload_n 1, 1) := by decide +kernel
theorem dX10_refuseFarInt_5 : decode cX10_refuseFarInt 5 = .ok (.invokevirtual 69, 3) := by decide +kernel
theorem dX10_refuseFarInt_8 : decode cX10_refuseFarInt 8 = .ok (.isub, 1) := by decide +kernel
theorem dX10_refuseFarInt_9 : decode cX10_refuseFarInt 9 = .ok (.ireturn, 1) := by decide +kernel
theorem dX10_change_0 : decode cX10_change 0 = .ok (.aload_n 0, 1) := by decide +kernel
theorem dX10_change_1 : decode cX10_change 1 = .ok (.getfield 10, 3) := by decide +kernel
theorem dX10_change_4 : decode cX10_change 4 = .ok (.iload_n 1, 1) := by decide +kernel
theorem dX10_change_5 : decode cX10_change 5 = .ok (.invokevirtual 107, 3) := by decide +kernel
theorem dX10_change_8 : decode cX10_change 8 = .ok (.ifCond .ne 12, 3) := by decide +kernel
theorem dX10_change_11 : decode cX10_change 11 = .ok (.aload_n 0, 1) := by decide +kernel
theorem dX10_change_12 : decode cX10_change 12 = .ok (.iload_n 1, 1) := by decide +kernel
theorem dX10_change_13 : decode cX10_change 13 = .ok (.iload_n 2, 1) := by decide +kernel
theorem dX10_change_14 : decode cX10_change 14 = .ok (.invokevirtual 111, 3) := by decide +kernel
theorem dX10_change_17 : decode cX10_change 17 = .ok (.ifCond .eq 9, 3) := by decide +kernel
theorem dX10_change_20 : decode cX10_change 20 = .ok (.aload_n 0, 1) := by decide +kernel
theorem dX10_change_21 : decode cX10_change 21 = .ok (.iconst (-1), 1) := by decide +kernel
theorem dX10_change_22 : decode cX10_change 22 = .ok (.invokevirtual 115, 3) := by decide +kernel
theorem dX10_change_25 : decode cX10_change 25 = .ok (.ireturn, 1) := by decide +kernel
theorem dX10_change_26 : decode cX10_change 26 = .ok (.iload_n 3, 1) := by decide +kernel
theorem dX10_change_27 : decode cX10_change 27 = .ok (.ldc 118, 2) := by decide +kernel
theorem dX10_change_29 : decode cX10_change 29 = .ok (.if_icmp .ge 10, 3) := by decide +kernel
theorem dX10_change_32 : decode cX10_change 32 = .ok (.aload_n 0, 1) := by decide +kernel
theorem dX10_change_33 : decode cX10_change 33 = .ok (.bipush (-4), 2) := by decide +kernel
theorem dX10_change_35 : decode cX10_change 35 = .ok (.invokevirtual 115, 3) := by decide +kernel
theorem dX10_change_38 : decode cX10_change 38 = .ok (.ireturn, 1) := by decide +kernel
theorem dX10_change_39 : decode cX10_change 39 = .ok (.iload_n 3, 1) := by decide +kernel
theorem dX10_change_40 : decode cX10_change 40 = .ok (.ldc 119, 2) := by decide +kernel
theorem dX10_change_42 : decode cX10_change 42 = .ok (.if_icmp .le 10, 3) := by decide +kernel
theorem dX10_change_45 : decode cX10_change 45 = .ok (.aload_n 0, 1) := by decide +kernel
theorem dX10_change_46 : decode cX10_change 46 = .ok (.bipush (-6), 2) := by decide +kernel
theorem dX10_change_48 : decode cX10_change 48 = .ok (.invokevirtual 115, 3) := by decide +kernel
theorem dX10_change_51 : decode cX10_change 51 = .ok (.ireturn, 1) := by decide +kernel
theorem dX10_change_52 : decode cX10_change 52 = .ok (.aload_n 0, 1) := by decide +kernel
theorem dX10_change_53 : decode cX10_change 53 = .ok (.getfield 10, 3) := by decide +kernel
theorem dX10_change_56 : decode cX10_change 56 = .ok (.getfield 85, 3) := by decide +kernel
theorem dX10_change_59 : decode cX10_change 59 = .ok (.iload_n 1, 1) := by decide +kernel
theorem dX10_change_60 : decode cX10_change 60 = .ok (.aaload, 1) := by decide +kernel
theorem dX10_change_61 : decode cX10_change 61 = .ok (.getfield 120, 3) := by decide +kernel
theorem dX10_change_64 : decode cX10_change 64 = .ok (.astore 4, 2) := by decide +kernel
theorem dX10_change_66 : decode cX10_change 66 = .ok (.aload 4, 2) := by decide +kernel
theorem dX10_change_68 : decode cX10_change 68 = .ok (.iload_n 2, 1) := by decide +kernel
theorem dX10_change_69 : decode cX10_change 69 = .ok (.iaload, 1) := by decide +kernel
theorem dX10_change_70 : decode cX10_change 70 = .ok (.istore 5, 2) := by decide +kernel
theorem dX10_change_72 : decode cX10_change 72 = .ok (.aload 4, 2) := by decide +kernel
theorem dX10_change_74 : decode cX10_change 74 = .ok (.iload_n 2, 1) := by decide +kernel
theorem dX10_change_75 : decode cX10_change 75 = .ok (.iload_n 3, 1) := by decide +kernel
theorem dX10_change_76 : decode cX10_change 76 = .ok (.iastore, 1) := by decide +kernel
theorem dX10_change_77 : decode cX10_change 77 = .ok (.aload_n 0, 1) := by decide +kernel
theorem dX10_change_78 : decode cX10_change 78 = .ok (.getfield 54, 3) := by decide +kernel
theorem dX10_change_81 : decode cX10_change 81 = .ok (.iload_n 1, 1) := by decide +kernel
theorem dX10_change_82 : decode cX10_change 82 = .ok (.iload_n 2, 1) := by decide +kernel
theorem dX10_change_83 : decode cX10_change 83 = .ok (.iload 5, 2) := by decide +kernel
theorem dX10_change_85 : decode cX10_change 85 = .ok (.iconst 0, 1) := by decide +kernel
theorem dX10_change_86 : decode cX10_change 86 = .ok (.invokevirtual 125, 3) := by decide +kernel
theorem dX10_change_89 : decode cX10_change 89 = .ok (.iload 5, 2) := by decide +kernel
theorem dX10_change_91 : decode cX10_change 91 = .ok (.ireturn, 1) := by decide +kernel
theorem dX10_turn_0 : decode cX10_turn 0 = .ok (.aload_n 0, 1) := by decide +kernel
theorem dX10_turn_1 : decode cX10_turn 1 = .ok (.getfield 10, 3) := by decide +kernel
theorem dX10_turn_4 : decode cX10_turn 4 = .ok (.iload_n 1, 1) := by decide +kernel
theorem dX10_turn_5 : decode cX10_turn 5 = .ok (.invokevirtual 107, 3) := by decide +kernel
theorem dX10_turn_8 : decode cX10_turn 8 = .ok (.ifCond .eq 9, 3) := by decide +kernel
theorem dX10_turn_11 : decode cX10_turn 11 = .ok (.aload_n 0, 1) := by decide +kernel
theorem dX10_turn_12 : decode cX10_turn 12 = .ok (.iconst (-1), 1) := by decide +kernel
theorem dX10_turn_13 : decode cX10_turn 13 = .ok (.invokevirtual 69, 3) := by decide +kernel
theorem dX10_turn_16 : decode cX10_turn 16 = .ok (.ireturn, 1) := by decide +kernel
theorem dX10_turn_17 : decode cX10_turn 17 = .ok (.iload_n 2, 1) := by decide +kernel
theorem dX10_turn_18 : decode cX10_turn 18 = .ok (.bipush 6, 2) := by decide +kernel
theorem dX10_turn_20 : decode cX10_turn 20 = .ok (.invokestatic 128, 3) := by decide +kernel
theorem dX10_turn_23 : decode cX10_turn 23 = .ok (.ifCond .eq 10, 3) := by decide +kernel
theorem dX10_turn_26 : decode cX10_turn 26 = .ok (.aload_n 0, 1) := by decide +kernel
theorem dX10_turn_27 : decode cX10_turn 27 = .ok (.bipush (-2), 2) := by decide +kernel
theorem dX10_turn_29 : decode cX10_turn 29 = .ok (.invokevirtual 69, 3) := by decide +kernel
theorem dX10_turn_32 : decode cX10_turn 32 = .ok (.ireturn, 1) := by decide +kernel
theorem dX10_turn_33 : decode cX10_turn 33 = .ok (.iload_n 3, 1) := by decide +kernel
theorem dX10_turn_34 : decode cX10_turn 34 = .ok (.ifCond .ge 10, 3) := by decide +kernel
theorem dX10_turn_37 : decode cX10_turn 37 = .ok (.aload_n 0, 1) := by decide +kernel
theorem dX10_turn_38 : decode cX10_turn 38 = .ok (.bipush (-4), 2) := by decide +kernel
theorem dX10_turn_40 : decode cX10_turn 40 = .ok (.invokevirtual 69, 3) := by decide +kernel
theorem dX10_turn_43 : decode cX10_turn 43 = .ok (.ireturn, 1) := by decide +kernel
theorem dX10_turn_44 : decode cX10_turn 44 = .ok (.iload_n 3, 1) := by decide +kernel
theorem dX10_turn_45 : decode cX10_turn 45 = .ok (.bipush 9, 2) := by decide +kernel
theorem dX10_turn_47 : decode cX10_turn 47 = .ok (.if_icmp .le 10, 3) := by decide +kernel
theorem dX10_turn_50 : decode cX10_turn 50 = .ok (.aload_n 0, 1) := by decide +kernel
theorem dX10_turn_51 : decode cX10_turn 51 = .ok (.bipush (-6), 2) := by decide +kernel
theorem dX10_turn_53 : decode cX10_turn 53 = .ok (.invokevirtual 69, 3) := by decide +kernel
theorem dX10_turn_56 : decode cX10_turn 56 = .ok (.ireturn, 1) := by decide +kernel
theorem dX10_turn_57 : decode cX10_turn 57 = .ok (.aload_n 0, 1) := by decide +kernel
theorem dX10_turn_58 : decode cX10_turn 58 = .ok (.getfield 10, 3) := by decide +kernel
theorem dX10_turn_61 : decode cX10_turn 61 = .ok (.getfield 85, 3) := by decide +kernel
theorem dX10_turn_64 : decode cX10_turn 64 = .ok (.iload_n 1, 1) := by decide +kernel
theorem dX10_turn_65 : decode cX10_turn 65 = .ok (.aaload, 1) := by decide +kernel
theorem dX10_turn_66 : decode cX10_turn 66 = .ok (.astore 4, 2) := by decide +kernel
theorem dX10_turn_68 : decode cX10_turn 68 = .ok (.aload_n 0, 1) := by decide +kernel
theorem dX10_turn_69 : decode cX10_turn 69 = .ok (.getfield 54, 3) := by decide +kernel
theorem dX10_turn_72 : decode cX10_turn 72 = .ok (.iload_n 1, 1) := by decide +kernel
theorem dX10_turn_73 : decode cX10_turn 73 = .ok (.iconst (-1), 1) := by decide +kernel
theorem dX10_turn_74 : decode cX10_turn 74 = .ok (.aload 4, 2) := by decide +kernel
theorem dX10_turn_76 : decode cX10_turn 76 = .ok (.getfield 131, 3) := by decide +kernel
theorem dX10_turn_79 : decode cX10_turn 79 = .ok (.aload 4, 2) := by decide +kernel
theorem dX10_turn_81 : decode cX10_turn 81 = .ok (.getfield 134, 3) := by decide +kernel
theorem dX10_turn_84 : decode cX10_turn 84 = .ok (.invokevirtual 125, 3) := by decide +kernel
theorem dX10_turn_87 : decode cX10_turn 87 = .ok (.bipush 10, 2) := by decide +kernel
theorem dX10_turn_89 : decode cX10_turn 89 = .ok (.aload 4, 2) := by decide +kernel
theorem dX10_turn_91 : decode cX10_turn 91 = .ok (.getfield 131, 3) := by decide +kernel
theorem dX10_turn_94 : decode cX10_turn 94 = .ok (.imul, 1) := by decide +kernel
theorem dX10_turn_95 : decode cX10_turn 95 = .ok (.aload 4, 2) := by decide +kernel
theorem dX10_turn_97 : decode cX10_turn 97 = .ok (.getfield 134, 3) := by decide +kernel
theorem dX10_turn_100 : decode cX10_turn 100 = .ok (.iadd, 1) := by decide +kernel
theorem dX10_turn_101 : decode cX10_turn 101 = .ok (.istore 5, 2) := by decide +kernel
theorem dX10_turn_103 : decode cX10_turn 103 = .ok (.aload 4, 2) := by decide +kernel
theorem dX10_turn_105 : decode cX10_turn 105 = .ok (.iload_n 2, 1) := by decide +kernel
theorem dX10_turn_106 : decode cX10_turn 106 = .ok (.putfield 131, 3) := by decide +kernel
theorem dX10_turn_109 : decode cX10_turn 109 = .ok (.aload 4, 2) := by decide +kernel
theorem dX10_turn_111 : decode cX10_turn 111 = .ok (.iload_n 3, 1) := by decide +kernel
theorem dX10_turn_112 : decode cX10_turn 112 = .ok (.putfield 134, 3) := by decide +kernel
theorem dX10_turn_115 : decode cX10_turn 115 = .ok (.iload 5, 2) := by decide +kernel
theorem dX10_turn_117 : decode cX10_turn 117 = .ok (.ireturn, 1) := by decide +kernel
theorem dX10_of_0 : decode cX10_of 0 = .ok (.aload_n 0, 1) := by decide +kernel
theorem dX10_of_1 : decode cX10_of 1 = .ok (.getfield 10, 3) := by decide +kernel
theorem dX10_of_4 : decode cX10_of 4 = .ok (.iload_n 1, 1) := by decide +kernel
theorem dX10_of_5 : decode cX10_of 5 = .ok (.invokevirtual 107, 3) := by decide +kernel
theorem dX10_of_8 : decode cX10_of 8 = .ok (.ifCond .eq 9, 3) := by decide +kernel
theorem dX10_of_11 : decode cX10_of 11 = .ok (.aload_n 0, 1) := by decide +kernel
theorem dX10_of_12 : decode cX10_of 12 = .ok (.iconst (-1), 1) := by decide +kernel
theorem dX10_of_13 : decode cX10_of 13 = .ok (.invokevirtual 69, 3) := by decide +kernel
theorem dX10_of_16 : decode cX10_of 16 = .ok (.ireturn, 1) := by decide +kernel
theorem dX10_of_17 : decode cX10_of 17 = .ok (.iload_n 2, 1) := by decide +kernel
theorem dX10_of_18 : decode cX10_of 18 = .ok (.bipush 6, 2) := by decide +kernel
theorem dX10_of_20 : decode cX10_of 20 = .ok (.invokestatic 128, 3) := by decide +kernel
theorem dX10_of_23 : decode cX10_of 23 = .ok (.ifCond .eq 10, 3) := by decide +kernel
theorem dX10_of_26 : decode cX10_of 26 = .ok (.aload_n 0, 1) := by decide +kernel
theorem dX10_of_27 : decode cX10_of 27 = .ok (.bipush (-2), 2) := by decide +kernel
theorem dX10_of_29 : decode cX10_of 29 = .ok (.invokevirtual 69, 3) := by decide +kernel
theorem dX10_of_32 : decode cX10_of 32 = .ok (.ireturn, 1) := by decide +kernel
theorem dX10_of_33 : decode cX10_of 33 = .ok (.aload_n 0, 1) := by decide +kernel
theorem dX10_of_34 : decode cX10_of 34 = .ok (.getfield 10, 3) := by decide +kernel
theorem dX10_of_37 : decode cX10_of 37 = .ok (.getfield 85, 3) := by decide +kernel
theorem dX10_of_40 : decode cX10_of 40 = .ok (.iload_n 1, 1) := by decide +kernel
theorem dX10_of_41 : decode cX10_of 41 = .ok (.aaload, 1) := by decide +kernel
theorem dX10_of_42 : decode cX10_of 42 = .ok (.astore_n 3, 1) := by decide +kernel
theorem dX10_of_43 : decode cX10_of 43 = .ok (.iload_n 2, 1) := by decide +kernel
theorem dX10_of_44 : decode cX10_of 44 = .ok (.tableswitch 65 0 4 #[36, 41, 46, 51, 59], 36) := by decide +kernel
theorem dX10_of_80 : decode cX10_of 80 = .ok (.aload_n 3, 1) := by decide +kernel
theorem dX10_of_81 : decode cX10_of 81 = .ok (.getfield 131, 3) := by decide +kernel
theorem dX10_of_84 : decode cX10_of 84 = .ok (.ireturn, 1) := by decide +kernel
theorem dX10_of_85 : decode cX10_of 85 = .ok (.aload_n 3, 1) := by decide +kernel
theorem dX10_of_86 : decode cX10_of 86 = .ok (.getfield 134, 3) := by decide +kernel
theorem dX10_of_89 : decode cX10_of 89 = .ok (.ireturn, 1) := by decide +kernel
theorem dX10_of_90 : decode cX10_of 90 = .ok (.aload_n 3, 1) := by decide +kernel
theorem dX10_of_91 : decode cX10_of 91 = .ok (.getfield 137, 3) := by decide +kernel
theorem dX10_of_94 : decode cX10_of 94 = .ok (.ireturn, 1) := by decide +kernel
theorem dX10_of_95 : decode cX10_of 95 = .ok (.aload_n 3, 1) := by decide +kernel
theorem dX10_of_96 : decode cX10_of 96 = .ok (.getfield 137, 3) := by decide +kernel
theorem dX10_of_99 : decode cX10_of 99 = .ok (.invokestatic 140, 3) := by decide +kernel
theorem dX10_of_102 : decode cX10_of 102 = .ok (.ireturn, 1) := by decide +kernel
theorem dX10_of_103 : decode cX10_of 103 = .ok (.aload_n 3, 1) := by decide +kernel
theorem dX10_of_104 : decode cX10_of 104 = .ok (.iconst 0, 1) := by decide +kernel
theorem dX10_of_105 : decode cX10_of 105 = .ok (.invokevirtual 143, 3) := by decide +kernel
theorem dX10_of_108 : decode cX10_of 108 = .ok (.ireturn, 1) := by decide +kernel
theorem dX10_of_109 : decode cX10_of 109 = .ok (.aload_n 3, 1) := by decide +kernel
theorem dX10_of_110 : decode cX10_of 110 = .ok (.iconst 1, 1) := by decide +kernel
theorem dX10_of_111 : decode cX10_of 111 = .ok (.invokevirtual 143, 3) := by decide +kernel
theorem dX10_of_114 : decode cX10_of 114 = .ok (.ireturn, 1) := by decide +kernel
theorem dX10_coefficient_0 : decode cX10_coefficient 0 = .ok (.aload_n 0, 1) := by decide +kernel
theorem dX10_coefficient_1 : decode cX10_coefficient 1 = .ok (.getfield 10, 3) := by decide +kernel
theorem dX10_coefficient_4 : decode cX10_coefficient 4 = .ok (.iload_n 1, 1) := by decide +kernel
theorem dX10_coefficient_5 : decode cX10_coefficient 5 = .ok (.invokevirtual 107, 3) := by decide +kernel
theorem dX10_coefficient_8 : decode cX10_coefficient 8 = .ok (.ifCond .ne 12, 3) := by decide +kernel
theorem dX10_coefficient_11 : decode cX10_coefficient 11 = .ok (.aload_n 0, 1) := by decide +kernel
theorem dX10_coefficient_12 : decode cX10_coefficient 12 = .ok (.iload_n 1, 1) := by decide +kernel
theorem dX10_coefficient_13 : decode cX10_coefficient 13 = .ok (.iload_n 2, 1) := by decide +kernel
theorem dX10_coefficient_14 : decode cX10_coefficient 14 = .ok (.invokevirtual 111, 3) := by decide +kernel
theorem dX10_coefficient_17 : decode cX10_coefficient 17 = .ok (.ifCond .eq 9, 3) := by decide +kernel
theorem dX10_coefficient_20 : decode cX10_coefficient 20 = .ok (.aload_n 0, 1) := by decide +kernel
theorem dX10_coefficient_21 : decode cX10_coefficient 21 = .ok (.iconst (-1), 1) := by decide +kernel
theorem dX10_coefficient_22 : decode cX10_coefficient 22 = .ok (.invokevirtual 115, 3) := by decide +kernel
theorem dX10_coefficient_25 : decode cX10_coefficient 25 = .ok (.ireturn, 1) := by decide +kernel
theorem dX10_coefficient_26 : decode cX10_coefficient 26 = .ok (.aload_n 0, 1) := by decide +kernel
theorem dX10_coefficient_27 : decode cX10_coefficient 27 = .ok (.getfield 10, 3) := by decide +kernel
theorem dX10_coefficient_30 : decode cX10_coefficient 30 = .ok (.getfield 85, 3) := by decide +kernel
theorem dX10_coefficient_33 : decode cX10_coefficient 33 = .ok (.iload_n 1, 1) := by decide +kernel
theorem dX10_coefficient_34 : decode cX10_coefficient 34 = .ok (.aaload, 1) := by decide +kernel
theorem dX10_coefficient_35 : decode cX10_coefficient 35 = .ok (.iload_n 2, 1) := by decide +kernel
theorem dX10_coefficient_36 : decode cX10_coefficient 36 = .ok (.invokevirtual 149, 3) := by decide +kernel
theorem dX10_coefficient_39 : decode cX10_coefficient 39 = .ok (.ireturn, 1) := by decide +kernel
theorem dX10_refuseFar_0 : decode cX10_refuseFar 0 = .ok (.ldc2_w 301, 3) := by decide +kernel
theorem dX10_refuseFar_3 : decode cX10_refuseFar 3 = .ok (.aload_n 0, 1) := by decide +kernel
theorem dX10_refuseFar_4 : decode cX10_refuseFar 4 = .ok (.iload_n 1, 1) := by decide +kernel
theorem dX10_refuseFar_5 : decode cX10_refuseFar 5 = .ok (.invokevirtual 69, 3) := by decide +kernel
theorem dX10_refuseFar_8 : decode cX10_refuseFar 8 = .ok (.i2l, 1) := by decide +kernel
theorem dX10_refuseFar_9 : decode cX10_refuseFar 9 = .ok (.lsub, 1) := by decide +kernel
theorem dX10_refuseFar_10 : decode cX10_refuseFar 10 = .ok (.lreturn, 1) := by decide +kernel
theorem dX10_workOn_0 : decode cX10_workOn 0 = .ok (.aload_n 0, 1) := by decide +kernel
theorem dX10_workOn_1 : decode cX10_workOn 1 = .ok (.getfield 10, 3) := by decide +kernel
theorem dX10_workOn_4 : decode cX10_workOn 4 = .ok (.getfield 303, 3) := by decide +kernel
theorem dX10_workOn_7 : decode cX10_workOn 7 = .ok (.aload_n 0, 1) := by decide +kernel
theorem dX10_workOn_8 : decode cX10_workOn 8 = .ok (.getfield 10, 3) := by decide +kernel
theorem dX10_workOn_11 : decode cX10_workOn 11 = .ok (.getfield 85, 3) := by decide +kernel
theorem dX10_workOn_14 : decode cX10_workOn 14 = .ok (.iload_n 1, 1) := by decide +kernel
theorem dX10_workOn_15 : decode cX10_workOn 15 = .ok (.aaload, 1) := by decide +kernel
theorem dX10_workOn_16 : decode cX10_workOn 16 = .ok (.iload_n 2, 1) := by decide +kernel
theorem dX10_workOn_17 : decode cX10_workOn 17 = .ok (.invokevirtual 307, 3) := by decide +kernel
theorem dX10_workOn_20 : decode cX10_workOn 20 = .ok (.aload_n 0, 1) := by decide +kernel
theorem dX10_workOn_21 : decode cX10_workOn 21 = .ok (.getfield 10, 3) := by decide +kernel
theorem dX10_workOn_24 : decode cX10_workOn 24 = .ok (.getfield 303, 3) := by decide +kernel
theorem dX10_workOn_27 : decode cX10_workOn 27 = .ok (.areturn, 1) := by decide +kernel
theorem dX10_value_0 : decode cX10_value 0 = .ok (.aload_n 0, 1) := by decide +kernel
theorem dX10_value_1 : decode cX10_value 1 = .ok (.getfield 10, 3) := by decide +kernel
theorem dX10_value_4 : decode cX10_value 4 = .ok (.iload_n 1, 1) := by decide +kernel
theorem dX10_value_5 : decode cX10_value 5 = .ok (.invokevirtual 107, 3) := by decide +kernel
theorem dX10_value_8 : decode cX10_value 8 = .ok (.ifCond .eq 9, 3) := by decide +kernel
theorem dX10_value_11 : decode cX10_value 11 = .ok (.aload_n 0, 1) := by decide +kernel
theorem dX10_value_12 : decode cX10_value 12 = .ok (.iconst (-1), 1) := by decide +kernel
theorem dX10_value_13 : decode cX10_value 13 = .ok (.invokevirtual 152, 3) := by decide +kernel
theorem dX10_value_16 : decode cX10_value 16 = .ok (.lreturn, 1) := by decide +kernel
theorem dX10_value_17 : decode cX10_value 17 = .ok (.iload_n 2, 1) := by decide +kernel
theorem dX10_value_18 : decode cX10_value 18 = .ok (.ifCond .lt 12, 3) := by decide +kernel
theorem dX10_value_21 : decode cX10_value 21 = .ok (.iload_n 3, 1) := by decide +kernel
theorem dX10_value_22 : decode cX10_value 22 = .ok (.ifCond .lt 8, 3) := by decide +kernel
theorem dX10_value_25 : decode cX10_value 25 = .ok (.iload 4, 2) := by decide +kernel
theorem dX10_value_27 : decode cX10_value 27 = .ok (.ifCond .ge 10, 3) := by decide +kernel
theorem dX10_value_30 : decode cX10_value 30 = .ok (.aload_n 0, 1) := by decide +kernel
theorem dX10_value_31 : decode cX10_value 31 = .ok (.bipush (-4), 2) := by decide +kernel
theorem dX10_value_33 : decode cX10_value 33 = .ok (.invokevirtual 152, 3) := by decide +kernel
theorem dX10_value_36 : decode cX10_value 36 = .ok (.lreturn, 1) := by decide +kernel
theorem dX10_value_37 : decode cX10_value 37 = .ok (.iload_n 2, 1) := by decide +kernel
theorem dX10_value_38 : decode cX10_value 38 = .ok (.bipush 12, 2) := by decide +kernel
theorem dX10_value_40 : decode cX10_value 40 = .ok (.if_icmp .gt 16, 3) := by decide +kernel
theorem dX10_value_43 : decode cX10_value 43 = .ok (.iload_n 3, 1) := by decide +kernel
theorem dX10_value_44 : decode cX10_value 44 = .ok (.bipush 12, 2) := by decide +kernel
theorem dX10_value_46 : decode cX10_value 46 = .ok (.if_icmp .gt 10, 3) := by decide +kernel
theorem dX10_value_49 : decode cX10_value 49 = .ok (.iload 4, 2) := by decide +kernel
theorem dX10_value_51 : decode cX10_value 51 = .ok (.bipush 12, 2) := by decide +kernel
theorem dX10_value_53 : decode cX10_value 53 = .ok (.if_icmp .le 10, 3) := by decide +kernel
theorem dX10_value_56 : decode cX10_value 56 = .ok (.aload_n 0, 1) := by decide +kernel
theorem dX10_value_57 : decode cX10_value 57 = .ok (.bipush (-6), 2) := by decide +kernel
theorem dX10_value_59 : decode cX10_value 59 = .ok (.invokevirtual 152, 3) := by decide +kernel
theorem dX10_value_62 : decode cX10_value 62 = .ok (.lreturn, 1) := by decide +kernel
theorem dX10_value_63 : decode cX10_value 63 = .ok (.aload_n 0, 1) := by decide +kernel
theorem dX10_value_64 : decode cX10_value 64 = .ok (.iload_n 1, 1) := by decide +kernel
theorem dX10_value_65 : decode cX10_value 65 = .ok (.bipush 7, 2) := by decide +kernel
theorem dX10_value_67 : decode cX10_value 67 = .ok (.invokevirtual 156, 3) := by decide +kernel
theorem dX10_value_70 : decode cX10_value 70 = .ok (.iload_n 2, 1) := by decide +kernel
theorem dX10_value_71 : decode cX10_value 71 = .ok (.iload_n 3, 1) := by decide +kernel
theorem dX10_value_72 : decode cX10_value 72 = .ok (.iload 4, 2) := by decide +kernel
theorem dX10_value_74 : decode cX10_value 74 = .ok (.invokevirtual 160, 3) := by decide +kernel
theorem dX10_value_77 : decode cX10_value 77 = .ok (.lreturn, 1) := by decide +kernel
theorem dX10_isSide_0 : decode cX10_isSide 0 = .ok (.iload_n 0, 1) := by decide +kernel
theorem dX10_isSide_1 : decode cX10_isSide 1 = .ok (.iconst 1, 1) := by decide +kernel
theorem dX10_isSide_2 : decode cX10_isSide 2 = .ok (.if_icmp .lt 13, 3) := by decide +kernel
theorem dX10_isSide_5 : decode cX10_isSide 5 = .ok (.iload_n 0, 1) := by decide +kernel
theorem dX10_isSide_6 : decode cX10_isSide 6 = .ok (.bipush 7, 2) := by decide +kernel
theorem dX10_isSide_8 : decode cX10_isSide 8 = .ok (.if_icmp .gt 7, 3) := by decide +kernel
theorem dX10_isSide_11 : decode cX10_isSide 11 = .ok (.iconst 1, 1) := by decide +kernel
theorem dX10_isSide_12 : decode cX10_isSide 12 = .ok (.goto 4, 3) := by decide +kernel
theorem dX10_isSide_15 : decode cX10_isSide 15 = .ok (.iconst 0, 1) := by decide +kernel
theorem dX10_isSide_16 : decode cX10_isSide 16 = .ok (.ireturn, 1) := by decide +kernel
theorem dX10_lifted_0 : decode cX10_lifted 0 = .ok (.aload_n 0, 1) := by decide +kernel
theorem dX10_lifted_1 : decode cX10_lifted 1 = .ok (.getfield 10, 3) := by decide +kernel
theorem dX10_lifted_4 : decode cX10_lifted 4 = .ok (.iload_n 1, 1) := by decide +kernel
theorem dX10_lifted_5 : decode cX10_lifted 5 = .ok (.invokevirtual 107, 3) := by decide +kernel
theorem dX10_lifted_8 : decode cX10_lifted 8 = .ok (.ifCond .ne 10, 3) := by decide +kernel
theorem dX10_lifted_11 : decode cX10_lifted 11 = .ok (.iload_n 2, 1) := by decide +kernel
theorem dX10_lifted_12 : decode cX10_lifted 12 = .ok (.invokestatic 166, 3) := by decide +kernel
theorem dX10_lifted_15 : decode cX10_lifted 15 = .ok (.ifCond .ne 9, 3) := by decide +kernel
theorem dX10_lifted_18 : decode cX10_lifted 18 = .ok (.aload_n 0, 1) := by decide +kernel
theorem dX10_lifted_19 : decode cX10_lifted 19 = .ok (.iconst (-1), 1) := by decide +kernel
theorem dX10_lifted_20 : decode cX10_lifted 20 = .ok (.invokevirtual 152, 3) := by decide +kernel
theorem dX10_lifted_23 : decode cX10_lifted 23 = .ok (.lreturn, 1) := by decide +kernel
theorem dX10_lifted_24 : decode cX10_lifted 24 = .ok (.iload_n 3, 1) := by decide +kernel
theorem dX10_lifted_25 : decode cX10_lifted 25 = .ok (.ifCond .ge 10, 3) := by decide +kernel
theorem dX10_lifted_28 : decode cX10_lifted 28 = .ok (.aload_n 0, 1) := by decide +kernel
theorem dX10_lifted_29 : decode cX10_lifted 29 = .ok (.bipush (-4), 2) := by decide +kernel
theorem dX10_lifted_31 : decode cX10_lifted 31 = .ok (.invokevirtual 152, 3) := by decide +kernel
theorem dX10_lifted_34 : decode cX10_lifted 34 = .ok (.lreturn, 1) := by decide +kernel
theorem dX10_lifted_35 : decode cX10_lifted 35 = .ok (.iload_n 3, 1) := by decide +kernel
theorem dX10_lifted_36 : decode cX10_lifted 36 = .ok (.bipush 12, 2) := by decide +kernel
theorem dX10_lifted_38 : decode cX10_lifted 38 = .ok (.if_icmp .le 10, 3) := by decide +kernel
theorem dX10_lifted_41 : decode cX10_lifted 41 = .ok (.aload_n 0, 1) := by decide +kernel
theorem dX10_lifted_42 : decode cX10_lifted 42 = .ok (.bipush (-6), 2) := by decide +kernel
theorem dX10_lifted_44 : decode cX10_lifted 44 = .ok (.invokevirtual 152, 3) := by decide +kernel
theorem dX10_lifted_47 : decode cX10_lifted 47 = .ok (.lreturn, 1) := by decide +kernel
theorem dX10_lifted_48 : decode cX10_lifted 48 = .ok (.iload 4, 2) := by decide +kernel
theorem dX10_lifted_50 : decode cX10_lifted 50 = .ok (.iload_n 2, 1) := by decide +kernel
theorem dX10_lifted_51 : decode cX10_lifted 51 = .ok (.aload_n 0, 1) := by decide +kernel
theorem dX10_lifted_52 : decode cX10_lifted 52 = .ok (.getfield 10, 3) := by decide +kernel
theorem dX10_lifted_55 : decode cX10_lifted 55 = .ok (.getfield 85, 3) := by decide +kernel
theorem dX10_lifted_58 : decode cX10_lifted 58 = .ok (.iload_n 1, 1) := by decide +kernel
theorem dX10_lifted_59 : decode cX10_lifted 59 = .ok (.aaload, 1) := by decide +kernel
theorem dX10_lifted_60 : decode cX10_lifted 60 = .ok (.getfield 137, 3) := by decide +kernel
theorem dX10_lifted_63 : decode cX10_lifted 63 = .ok (.iload_n 3, 1) := by decide +kernel
theorem dX10_lifted_64 : decode cX10_lifted 64 = .ok (.iadd, 1) := by decide +kernel
theorem dX10_lifted_65 : decode cX10_lifted 65 = .ok (.invokestatic 169, 3) := by decide +kernel
theorem dX10_lifted_68 : decode cX10_lifted 68 = .ok (.invokestatic 128, 3) := by decide +kernel
theorem dX10_lifted_71 : decode cX10_lifted 71 = .ok (.ifCond .eq 9, 3) := by decide +kernel
theorem dX10_lifted_74 : decode cX10_lifted 74 = .ok (.aload_n 0, 1) := by decide +kernel
theorem dX10_lifted_75 : decode cX10_lifted 75 = .ok (.iconst (-1), 1) := by decide +kernel
theorem dX10_lifted_76 : decode cX10_lifted 76 = .ok (.invokevirtual 152, 3) := by decide +kernel
theorem dX10_lifted_79 : decode cX10_lifted 79 = .ok (.lreturn, 1) := by decide +kernel
theorem dX10_lifted_80 : decode cX10_lifted 80 = .ok (.aload_n 0, 1) := by decide +kernel
theorem dX10_lifted_81 : decode cX10_lifted 81 = .ok (.iload_n 1, 1) := by decide +kernel
theorem dX10_lifted_82 : decode cX10_lifted 82 = .ok (.iload_n 2, 1) := by decide +kernel
theorem dX10_lifted_83 : decode cX10_lifted 83 = .ok (.invokevirtual 156, 3) := by decide +kernel
theorem dX10_lifted_86 : decode cX10_lifted 86 = .ok (.astore 5, 2) := by decide +kernel
theorem dX10_lifted_88 : decode cX10_lifted 88 = .ok (.aload 5, 2) := by decide +kernel
theorem dX10_lifted_90 : decode cX10_lifted 90 = .ok (.iload_n 2, 1) := by decide +kernel
theorem dX10_lifted_91 : decode cX10_lifted 91 = .ok (.iload_n 3, 1) := by decide +kernel
theorem dX10_lifted_92 : decode cX10_lifted 92 = .ok (.invokevirtual 173, 3) := by decide +kernel
theorem dX10_lifted_95 : decode cX10_lifted 95 = .ok (.aload 5, 2) := by decide +kernel
theorem dX10_lifted_97 : decode cX10_lifted 97 = .ok (.iload_n 2, 1) := by decide +kernel
theorem dX10_lifted_98 : decode cX10_lifted 98 = .ok (.iload 4, 2) := by decide +kernel
theorem dX10_lifted_100 : decode cX10_lifted 100 = .ok (.invokevirtual 177, 3) := by decide +kernel
theorem dX10_lifted_103 : decode cX10_lifted 103 = .ok (.lreturn, 1) := by decide +kernel
theorem dX10_fault_0 : decode cX10_fault 0 = .ok (.aload_n 0, 1) := by decide +kernel
theorem dX10_fault_1 : decode cX10_fault 1 = .ok (.getfield 10, 3) := by decide +kernel
theorem dX10_fault_4 : decode cX10_fault 4 = .ok (.iload_n 1, 1) := by decide +kernel
theorem dX10_fault_5 : decode cX10_fault 5 = .ok (.invokevirtual 107, 3) := by decide +kernel
theorem dX10_fault_8 : decode cX10_fault 8 = .ok (.ifCond .ne 10, 3) := by decide +kernel
theorem dX10_fault_11 : decode cX10_fault 11 = .ok (.iload_n 2, 1) := by decide +kernel
theorem dX10_fault_12 : decode cX10_fault 12 = .ok (.invokestatic 166, 3) := by decide +kernel
theorem dX10_fault_15 : decode cX10_fault 15 = .ok (.ifCond .ne 9, 3) := by decide +kernel
theorem dX10_fault_18 : decode cX10_fault 18 = .ok (.aload_n 0, 1) := by decide +kernel
theorem dX10_fault_19 : decode cX10_fault 19 = .ok (.iconst (-1), 1) := by decide +kernel
theorem dX10_fault_20 : decode cX10_fault 20 = .ok (.invokevirtual 69, 3) := by decide +kernel
theorem dX10_fault_23 : decode cX10_fault 23 = .ok (.ireturn, 1) := by decide +kernel
theorem dX10_fault_24 : decode cX10_fault 24 = .ok (.iload 4, 2) := by decide +kernel
theorem dX10_fault_26 : decode cX10_fault 26 = .ok (.iconst 2, 1) := by decide +kernel
theorem dX10_fault_27 : decode cX10_fault 27 = .ok (.invokestatic 128, 3) := by decide +kernel
theorem dX10_fault_30 : decode cX10_fault 30 = .ok (.ifCond .eq 10, 3) := by decide +kernel
theorem dX10_fault_33 : decode cX10_fault 33 = .ok (.aload_n 0, 1) := by decide +kernel
theorem dX10_fault_34 : decode cX10_fault 34 = .ok (.bipush (-2), 2) := by decide +kernel
theorem dX10_fault_36 : decode cX10_fault 36 = .ok (.invokevirtual 69, 3) := by decide +kernel
theorem dX10_fault_39 : decode cX10_fault 39 = .ok (.ireturn, 1) := by decide +kernel
theorem dX10_fault_40 : decode cX10_fault 40 = .ok (.iload_n 3, 1) := by decide +kernel
theorem dX10_fault_41 : decode cX10_fault 41 = .ok (.ifCond .ge 10, 3) := by decide +kernel
theorem dX10_fault_44 : decode cX10_fault 44 = .ok (.aload_n 0, 1) := by decide +kernel
theorem dX10_fault_45 : decode cX10_fault 45 = .ok (.bipush (-4), 2) := by decide +kernel
theorem dX10_fault_47 : decode cX10_fault 47 = .ok (.invokevirtual 69, 3) := by decide +kernel
theorem dX10_fault_50 : decode cX10_fault 50 = .ok (.ireturn, 1) := by decide +kernel
theorem dX10_fault_51 : decode cX10_fault 51 = .ok (.iload_n 3, 1) := by decide +kernel
theorem dX10_fault_52 : decode cX10_fault 52 = .ok (.bipush 12, 2) := by decide +kernel
theorem dX10_fault_54 : decode cX10_fault 54 = .ok (.if_icmp .le 10, 3) := by decide +kernel
theorem dX10_fault_57 : decode cX10_fault 57 = .ok (.aload_n 0, 1) := by decide +kernel
theorem dX10_fault_58 : decode cX10_fault 58 = .ok (.bipush (-6), 2) := by decide +kernel
theorem dX10_fault_60 : decode cX10_fault 60 = .ok (.invokevirtual 69, 3) := by decide +kernel
theorem dX10_fault_63 : decode cX10_fault 63 = .ok (.ireturn, 1) := by decide +kernel
theorem dX10_fault_64 : decode cX10_fault 64 = .ok (.aload_n 0, 1) := by decide +kernel
theorem dX10_fault_65 : decode cX10_fault 65 = .ok (.iload_n 1, 1) := by decide +kernel
theorem dX10_fault_66 : decode cX10_fault 66 = .ok (.iload_n 2, 1) := by decide +kernel
theorem dX10_fault_67 : decode cX10_fault 67 = .ok (.invokevirtual 156, 3) := by decide +kernel
theorem dX10_fault_70 : decode cX10_fault 70 = .ok (.astore 5, 2) := by decide +kernel
theorem dX10_fault_72 : decode cX10_fault 72 = .ok (.aload 5, 2) := by decide +kernel
theorem dX10_fault_74 : decode cX10_fault 74 = .ok (.iload_n 2, 1) := by decide +kernel
theorem dX10_fault_75 : decode cX10_fault 75 = .ok (.iload_n 3, 1) := by decide +kernel
theorem dX10_fault_76 : decode cX10_fault 76 = .ok (.invokevirtual 173, 3) := by decide +kernel
theorem dX10_fault_79 : decode cX10_fault 79 = .ok (.aload 5, 2) := by decide +kernel
theorem dX10_fault_81 : decode cX10_fault 81 = .ok (.iload_n 2, 1) := by decide +kernel
theorem dX10_fault_82 : decode cX10_fault 82 = .ok (.iload 4, 2) := by decide +kernel
theorem dX10_fault_84 : decode cX10_fault 84 = .ok (.invokevirtual 181, 3) := by decide +kernel
theorem dX10_fault_87 : decode cX10_fault 87 = .ok (.ireturn, 1) := by decide +kernel
theorem dX10_least_0 : decode cX10_least 0 = .ok (.aload_n 0, 1) := by decide +kernel
theorem dX10_least_1 : decode cX10_least 1 = .ok (.getfield 10, 3) := by decide +kernel
theorem dX10_least_4 : decode cX10_least 4 = .ok (.iload_n 1, 1) := by decide +kernel
theorem dX10_least_5 : decode cX10_least 5 = .ok (.invokevirtual 107, 3) := by decide +kernel
theorem dX10_least_8 : decode cX10_least 8 = .ok (.ifCond .ne 10, 3) := by decide +kernel
theorem dX10_least_11 : decode cX10_least 11 = .ok (.iload_n 2, 1) := by decide +kernel
theorem dX10_least_12 : decode cX10_least 12 = .ok (.invokestatic 166, 3) := by decide +kernel
theorem dX10_least_15 : decode cX10_least 15 = .ok (.ifCond .ne 9, 3) := by decide +kernel
theorem dX10_least_18 : decode cX10_least 18 = .ok (.aload_n 0, 1) := by decide +kernel
theorem dX10_least_19 : decode cX10_least 19 = .ok (.iconst (-1), 1) := by decide +kernel
theorem dX10_least_20 : decode cX10_least 20 = .ok (.invokevirtual 69, 3) := by decide +kernel
theorem dX10_least_23 : decode cX10_least 23 = .ok (.ireturn, 1) := by decide +kernel
theorem dX10_least_24 : decode cX10_least 24 = .ok (.iload_n 3, 1) := by decide +kernel
theorem dX10_least_25 : decode cX10_least 25 = .ok (.iconst 2, 1) := by decide +kernel
theorem dX10_least_26 : decode cX10_least 26 = .ok (.invokestatic 128, 3) := by decide +kernel
theorem dX10_least_29 : decode cX10_least 29 = .ok (.ifCond .eq 10, 3) := by decide +kernel
theorem dX10_least_32 : decode cX10_least 32 = .ok (.aload_n 0, 1) := by decide +kernel
theorem dX10_least_33 : decode cX10_least 33 = .ok (.bipush (-2), 2) := by decide +kernel
theorem dX10_least_35 : decode cX10_least 35 = .ok (.invokevirtual 69, 3) := by decide +kernel
theorem dX10_least_38 : decode cX10_least 38 = .ok (.ireturn, 1) := by decide +kernel
theorem dX10_least_39 : decode cX10_least 39 = .ok (.aload_n 0, 1) := by decide +kernel
theorem dX10_least_40 : decode cX10_least 40 = .ok (.iload_n 1, 1) := by decide +kernel
theorem dX10_least_41 : decode cX10_least 41 = .ok (.iload_n 2, 1) := by decide +kernel
theorem dX10_least_42 : decode cX10_least 42 = .ok (.invokevirtual 156, 3) := by decide +kernel
theorem dX10_least_45 : decode cX10_least 45 = .ok (.iload_n 2, 1) := by decide +kernel
theorem dX10_least_46 : decode cX10_least 46 = .ok (.iload_n 3, 1) := by decide +kernel
theorem dX10_least_47 : decode cX10_least 47 = .ok (.invokevirtual 184, 3) := by decide +kernel
theorem dX10_least_50 : decode cX10_least 50 = .ok (.ireturn, 1) := by decide +kernel
theorem dX10_failing_0 : decode cX10_failing 0 = .ok (.aload_n 0, 1) := by decide +kernel
theorem dX10_failing_1 : decode cX10_failing 1 = .ok (.getfield 10, 3) := by decide +kernel
theorem dX10_failing_4 : decode cX10_failing 4 = .ok (.iload_n 1, 1) := by decide +kernel
theorem dX10_failing_5 : decode cX10_failing 5 = .ok (.invokevirtual 107, 3) := by decide +kernel
theorem dX10_failing_8 : decode cX10_failing 8 = .ok (.ifCond .ne 10, 3) := by decide +kernel
theorem dX10_failing_11 : decode cX10_failing 11 = .ok (.iload_n 2, 1) := by decide +kernel
theorem dX10_failing_12 : decode cX10_failing 12 = .ok (.invokestatic 166, 3) := by decide +kernel
theorem dX10_failing_15 : decode cX10_failing 15 = .ok (.ifCond .ne 9, 3) := by decide +kernel
theorem dX10_failing_18 : decode cX10_failing 18 = .ok (.aload_n 0, 1) := by decide +kernel
theorem dX10_failing_19 : decode cX10_failing 19 = .ok (.iconst (-1), 1) := by decide +kernel
theorem dX10_failing_20 : decode cX10_failing 20 = .ok (.invokevirtual 69, 3) := by decide +kernel
theorem dX10_failing_23 : decode cX10_failing 23 = .ok (.ireturn, 1) := by decide +kernel
theorem dX10_failing_24 : decode cX10_failing 24 = .ok (.iload_n 3, 1) := by decide +kernel
theorem dX10_failing_25 : decode cX10_failing 25 = .ok (.iconst 2, 1) := by decide +kernel
theorem dX10_failing_26 : decode cX10_failing 26 = .ok (.invokestatic 128, 3) := by decide +kernel
theorem dX10_failing_29 : decode cX10_failing 29 = .ok (.ifCond .ne 12, 3) := by decide +kernel
theorem dX10_failing_32 : decode cX10_failing 32 = .ok (.iload 4, 2) := by decide +kernel
theorem dX10_failing_34 : decode cX10_failing 34 = .ok (.iconst 2, 1) := by decide +kernel
theorem dX10_failing_35 : decode cX10_failing 35 = .ok (.invokestatic 128, 3) := by decide +kernel
theorem dX10_failing_38 : decode cX10_failing 38 = .ok (.ifCond .eq 10, 3) := by decide +kernel
theorem dX10_failing_41 : decode cX10_failing 41 = .ok (.aload_n 0, 1) := by decide +kernel
theorem dX10_failing_42 : decode cX10_failing 42 = .ok (.bipush (-2), 2) := by decide +kernel
theorem dX10_failing_44 : decode cX10_failing 44 = .ok (.invokevirtual 69, 3) := by decide +kernel
theorem dX10_failing_47 : decode cX10_failing 47 = .ok (.ireturn, 1) := by decide +kernel
theorem dX10_failing_48 : decode cX10_failing 48 = .ok (.aload_n 0, 1) := by decide +kernel
theorem dX10_failing_49 : decode cX10_failing 49 = .ok (.iload_n 1, 1) := by decide +kernel
theorem dX10_failing_50 : decode cX10_failing 50 = .ok (.iload_n 2, 1) := by decide +kernel
theorem dX10_failing_51 : decode cX10_failing 51 = .ok (.invokevirtual 156, 3) := by decide +kernel
theorem dX10_failing_54 : decode cX10_failing 54 = .ok (.astore 5, 2) := by decide +kernel
theorem dX10_failing_56 : decode cX10_failing 56 = .ok (.aload 5, 2) := by decide +kernel
theorem dX10_failing_58 : decode cX10_failing 58 = .ok (.iload_n 2, 1) := by decide +kernel
theorem dX10_failing_59 : decode cX10_failing 59 = .ok (.iload_n 3, 1) := by decide +kernel
theorem dX10_failing_60 : decode cX10_failing 60 = .ok (.invokevirtual 187, 3) := by decide +kernel
theorem dX10_failing_63 : decode cX10_failing 63 = .ok (.istore 6, 2) := by decide +kernel
theorem dX10_failing_65 : decode cX10_failing 65 = .ok (.iload 6, 2) := by decide +kernel
theorem dX10_failing_67 : decode cX10_failing 67 = .ok (.bipush (-9), 2) := by decide +kernel
theorem dX10_failing_69 : decode cX10_failing 69 = .ok (.if_icmp .eq 8, 3) := by decide +kernel
theorem dX10_failing_72 : decode cX10_failing 72 = .ok (.iload 4, 2) := by decide +kernel
theorem dX10_failing_74 : decode cX10_failing 74 = .ok (.ifCond .ne 8, 3) := by decide +kernel
theorem dX10_failing_77 : decode cX10_failing 77 = .ok (.iload 6, 2) := by decide +kernel
theorem dX10_failing_79 : decode cX10_failing 79 = .ok (.goto 12, 3) := by decide +kernel
theorem dX10_failing_82 : decode cX10_failing 82 = .ok (.aload 5, 2) := by decide +kernel
theorem dX10_failing_84 : decode cX10_failing 84 = .ok (.iload_n 2, 1) := by decide +kernel
theorem dX10_failing_85 : decode cX10_failing 85 = .ok (.iload_n 3, 1) := by decide +kernel
theorem dX10_failing_86 : decode cX10_failing 86 = .ok (.iload 6, 2) := by decide +kernel
theorem dX10_failing_88 : decode cX10_failing 88 = .ok (.invokevirtual 190, 3) := by decide +kernel
theorem dX10_failing_91 : decode cX10_failing 91 = .ok (.ireturn, 1) := by decide +kernel
theorem dX10_pointsRefused_0 : decode cX10_pointsRefused 0 = .ok (.aload_n 0, 1) := by decide +kernel
theorem dX10_pointsRefused_1 : decode cX10_pointsRefused 1 = .ok (.getfield 10, 3) := by decide +kernel
theorem dX10_pointsRefused_4 : decode cX10_pointsRefused 4 = .ok (.iload_n 1, 1) := by decide +kernel
theorem dX10_pointsRefused_5 : decode cX10_pointsRefused 5 = .ok (.invokevirtual 107, 3) := by decide +kernel
theorem dX10_pointsRefused_8 : decode cX10_pointsRefused 8 = .ok (.ifCond .ne 10, 3) := by decide +kernel
theorem dX10_pointsRefused_11 : decode cX10_pointsRefused 11 = .ok (.iload_n 2, 1) := by decide +kernel
theorem dX10_pointsRefused_12 : decode cX10_pointsRefused 12 = .ok (.invokestatic 166, 3) := by decide +kernel
theorem dX10_pointsRefused_15 : decode cX10_pointsRefused 15 = .ok (.ifCond .ne 5, 3) := by decide +kernel
theorem dX10_pointsRefused_18 : decode cX10_pointsRefused 18 = .ok (.iconst (-1), 1) := by decide +kernel
theorem dX10_pointsRefused_19 : decode cX10_pointsRefused 19 = .ok (.ireturn, 1) := by decide +kernel
theorem dX10_pointsRefused_20 : decode cX10_pointsRefused 20 = .ok (.iload_n 3, 1) := by decide +kernel
theorem dX10_pointsRefused_21 : decode cX10_pointsRefused 21 = .ok (.iconst 1, 1) := by decide +kernel
theorem dX10_pointsRefused_22 : decode cX10_pointsRefused 22 = .ok (.if_icmp .ge 6, 3) := by decide +kernel
theorem dX10_pointsRefused_25 : decode cX10_pointsRefused 25 = .ok (.bipush (-4), 2) := by decide +kernel
theorem dX10_pointsRefused_27 : decode cX10_pointsRefused 27 = .ok (.ireturn, 1) := by decide +kernel
theorem dX10_pointsRefused_28 : decode cX10_pointsRefused 28 = .ok (.iload_n 3, 1) := by decide +kernel
theorem dX10_pointsRefused_29 : decode cX10_pointsRefused 29 = .ok (.bipush 12, 2) := by decide +kernel
theorem dX10_pointsRefused_31 : decode cX10_pointsRefused 31 = .ok (.if_icmp .le 6, 3) := by decide +kernel
theorem dX10_pointsRefused_34 : decode cX10_pointsRefused 34 = .ok (.bipush (-6), 2) := by decide +kernel
theorem dX10_pointsRefused_36 : decode cX10_pointsRefused 36 = .ok (.ireturn, 1) := by decide +kernel
theorem dX10_pointsRefused_37 : decode cX10_pointsRefused 37 = .ok (.iload 4, 2) := by decide +kernel
theorem dX10_pointsRefused_39 : decode cX10_pointsRefused 39 = .ok (.iconst 2, 1) := by decide +kernel
theorem dX10_pointsRefused_40 : decode cX10_pointsRefused 40 = .ok (.invokestatic 128, 3) := by decide +kernel
theorem dX10_pointsRefused_43 : decode cX10_pointsRefused 43 = .ok (.ifCond .eq 8, 3) := by decide +kernel
theorem dX10_pointsRefused_46 : decode cX10_pointsRefused 46 = .ok (.bipush (-2), 2) := by decide +kernel
theorem dX10_pointsRefused_48 : decode cX10_pointsRefused 48 = .ok (.goto 4, 3) := by decide +kernel
theorem dX10_pointsRefused_51 : decode cX10_pointsRefused 51 = .ok (.iconst 0, 1) := by decide +kernel
theorem dX10_pointsRefused_52 : decode cX10_pointsRefused 52 = .ok (.ireturn, 1) := by decide +kernel
theorem dX10_lowest_0 : decode cX10_lowest 0 = .ok (.aload_n 0, 1) := by decide +kernel
theorem dX10_lowest_1 : decode cX10_lowest 1 = .ok (.iload_n 1, 1) := by decide +kernel
theorem dX10_lowest_2 : decode cX10_lowest 2 = .ok (.iload_n 2, 1) := by decide +kernel
theorem dX10_lowest_3 : decode cX10_lowest 3 = .ok (.iload_n 3, 1) := by decide +kernel
theorem dX10_lowest_4 : decode cX10_lowest 4 = .ok (.iload 4, 2) := by decide +kernel
theorem dX10_lowest_6 : decode cX10_lowest 6 = .ok (.invokevirtual 194, 3) := by decide +kernel
theorem dX10_lowest_9 : decode cX10_lowest 9 = .ok (.istore 5, 2) := by decide +kernel
theorem dX10_lowest_11 : decode cX10_lowest 11 = .ok (.iload 5, 2) := by decide +kernel
theorem dX10_lowest_13 : decode cX10_lowest 13 = .ok (.ifCond .ge 10, 3) := by decide +kernel
theorem dX10_lowest_16 : decode cX10_lowest 16 = .ok (.aload_n 0, 1) := by decide +kernel
theorem dX10_lowest_17 : decode cX10_lowest 17 = .ok (.iload 5, 2) := by decide +kernel
theorem dX10_lowest_19 : decode cX10_lowest 19 = .ok (.invokevirtual 152, 3) := by decide +kernel
theorem dX10_lowest_22 : decode cX10_lowest 22 = .ok (.lreturn, 1) := by decide +kernel
theorem dX10_lowest_23 : decode cX10_lowest 23 = .ok (.aload_n 0, 1) := by decide +kernel
theorem dX10_lowest_24 : decode cX10_lowest 24 = .ok (.iload_n 1, 1) := by decide +kernel
theorem dX10_lowest_25 : decode cX10_lowest 25 = .ok (.iload_n 2, 1) := by decide +kernel
theorem dX10_lowest_26 : decode cX10_lowest 26 = .ok (.invokevirtual 156, 3) := by decide +kernel
theorem dX10_lowest_29 : decode cX10_lowest 29 = .ok (.astore 6, 2) := by decide +kernel
theorem dX10_lowest_31 : decode cX10_lowest 31 = .ok (.aload 6, 2) := by decide +kernel
theorem dX10_lowest_33 : decode cX10_lowest 33 = .ok (.iload_n 2, 1) := by decide +kernel
theorem dX10_lowest_34 : decode cX10_lowest 34 = .ok (.iload_n 3, 1) := by decide +kernel
theorem dX10_lowest_35 : decode cX10_lowest 35 = .ok (.invokevirtual 198, 3) := by decide +kernel
theorem dX10_lowest_38 : decode cX10_lowest 38 = .ok (.istore 7, 2) := by decide +kernel
theorem dX10_lowest_40 : decode cX10_lowest 40 = .ok (.iload 4, 2) := by decide +kernel
theorem dX10_lowest_42 : decode cX10_lowest 42 = .ok (.ifCond .ne 15, 3) := by decide +kernel
theorem dX10_lowest_45 : decode cX10_lowest 45 = .ok (.aload 6, 2) := by decide +kernel
theorem dX10_lowest_47 : decode cX10_lowest 47 = .ok (.iload_n 2, 1) := by decide +kernel
theorem dX10_lowest_48 : decode cX10_lowest 48 = .ok (.iload_n 3, 1) := by decide +kernel
theorem dX10_lowest_49 : decode cX10_lowest 49 = .ok (.iload 7, 2) := by decide +kernel
theorem dX10_lowest_51 : decode cX10_lowest 51 = .ok (.invokevirtual 201, 3) := by decide +kernel
theorem dX10_lowest_54 : decode cX10_lowest 54 = .ok (.goto 6, 3) := by decide +kernel
theorem dX10_lowest_57 : decode cX10_lowest 57 = .ok (.iload 7, 2) := by decide +kernel
theorem dX10_lowest_59 : decode cX10_lowest 59 = .ok (.i2l, 1) := by decide +kernel
theorem dX10_lowest_60 : decode cX10_lowest 60 = .ok (.lreturn, 1) := by decide +kernel
theorem dX10_proof_0 : decode cX10_proof 0 = .ok (.aload_n 0, 1) := by decide +kernel
theorem dX10_proof_1 : decode cX10_proof 1 = .ok (.getfield 10, 3) := by decide +kernel
theorem dX10_proof_4 : decode cX10_proof 4 = .ok (.iload_n 1, 1) := by decide +kernel
theorem dX10_proof_5 : decode cX10_proof 5 = .ok (.invokevirtual 107, 3) := by decide +kernel
theorem dX10_proof_8 : decode cX10_proof 8 = .ok (.ifCond .ne 10, 3) := by decide +kernel
theorem dX10_proof_11 : decode cX10_proof 11 = .ok (.iload_n 2, 1) := by decide +kernel
theorem dX10_proof_12 : decode cX10_proof 12 = .ok (.invokestatic 166, 3) := by decide +kernel
theorem dX10_proof_15 : decode cX10_proof 15 = .ok (.ifCond .ne 9, 3) := by decide +kernel
theorem dX10_proof_18 : decode cX10_proof 18 = .ok (.aload_n 0, 1) := by decide +kernel
theorem dX10_proof_19 : decode cX10_proof 19 = .ok (.iconst (-1), 1) := by decide +kernel
theorem dX10_proof_20 : decode cX10_proof 20 = .ok (.invokevirtual 69, 3) := by decide +kernel
theorem dX10_proof_23 : decode cX10_proof 23 = .ok (.ireturn, 1) := by decide +kernel
theorem dX10_proof_24 : decode cX10_proof 24 = .ok (.aload_n 0, 1) := by decide +kernel
theorem dX10_proof_25 : decode cX10_proof 25 = .ok (.iload_n 1, 1) := by decide +kernel
theorem dX10_proof_26 : decode cX10_proof 26 = .ok (.iload_n 2, 1) := by decide +kernel
theorem dX10_proof_27 : decode cX10_proof 27 = .ok (.invokevirtual 156, 3) := by decide +kernel
theorem dX10_proof_30 : decode cX10_proof 30 = .ok (.iload_n 2, 1) := by decide +kernel
theorem dX10_proof_31 : decode cX10_proof 31 = .ok (.iconst 1, 1) := by decide +kernel
theorem dX10_proof_32 : decode cX10_proof 32 = .ok (.invokevirtual 184, 3) := by decide +kernel
theorem dX10_proof_35 : decode cX10_proof 35 = .ok (.bipush (-9), 2) := by decide +kernel
theorem dX10_proof_37 : decode cX10_proof 37 = .ok (.if_icmp .eq 5, 3) := by decide +kernel
theorem dX10_proof_40 : decode cX10_proof 40 = .ok (.iconst 0, 1) := by decide +kernel
theorem dX10_proof_41 : decode cX10_proof 41 = .ok (.ireturn, 1) := by decide +kernel
theorem dX10_proof_42 : decode cX10_proof 42 = .ok (.aload_n 0, 1) := by decide +kernel
theorem dX10_proof_43 : decode cX10_proof 43 = .ok (.iload_n 1, 1) := by decide +kernel
theorem dX10_proof_44 : decode cX10_proof 44 = .ok (.iload_n 2, 1) := by decide +kernel
theorem dX10_proof_45 : decode cX10_proof 45 = .ok (.invokevirtual 156, 3) := by decide +kernel
theorem dX10_proof_48 : decode cX10_proof 48 = .ok (.iload_n 2, 1) := by decide +kernel
theorem dX10_proof_49 : decode cX10_proof 49 = .ok (.iconst 0, 1) := by decide +kernel
theorem dX10_proof_50 : decode cX10_proof 50 = .ok (.invokevirtual 184, 3) := by decide +kernel
theorem dX10_proof_53 : decode cX10_proof 53 = .ok (.bipush (-9), 2) := by decide +kernel
theorem dX10_proof_55 : decode cX10_proof 55 = .ok (.if_icmp .eq 5, 3) := by decide +kernel
theorem dX10_proof_58 : decode cX10_proof 58 = .ok (.iconst 1, 1) := by decide +kernel
theorem dX10_proof_59 : decode cX10_proof 59 = .ok (.ireturn, 1) := by decide +kernel
theorem dX10_proof_60 : decode cX10_proof 60 = .ok (.aload_n 0, 1) := by decide +kernel
theorem dX10_proof_61 : decode cX10_proof 61 = .ok (.iload_n 1, 1) := by decide +kernel
theorem dX10_proof_62 : decode cX10_proof 62 = .ok (.iload_n 2, 1) := by decide +kernel
theorem dX10_proof_63 : decode cX10_proof 63 = .ok (.invokevirtual 156, 3) := by decide +kernel
theorem dX10_proof_66 : decode cX10_proof 66 = .ok (.iload_n 2, 1) := by decide +kernel
theorem dX10_proof_67 : decode cX10_proof 67 = .ok (.iconst 0, 1) := by decide +kernel
theorem dX10_proof_68 : decode cX10_proof 68 = .ok (.invokevirtual 187, 3) := by decide +kernel
theorem dX10_proof_71 : decode cX10_proof 71 = .ok (.bipush (-9), 2) := by decide +kernel
theorem dX10_proof_73 : decode cX10_proof 73 = .ok (.if_icmp .eq 7, 3) := by decide +kernel
theorem dX10_proof_76 : decode cX10_proof 76 = .ok (.iconst 2, 1) := by decide +kernel
theorem dX10_proof_77 : decode cX10_proof 77 = .ok (.goto 4, 3) := by decide +kernel
theorem dX10_proof_80 : decode cX10_proof 80 = .ok (.iconst 3, 1) := by decide +kernel
theorem dX10_proof_81 : decode cX10_proof 81 = .ok (.ireturn, 1) := by decide +kernel
theorem dX10_walls_0 : decode cX10_walls 0 = .ok (.iload_n 1, 1) := by decide +kernel
theorem dX10_walls_1 : decode cX10_walls 1 = .ok (.iconst 3, 1) := by decide +kernel
theorem dX10_walls_2 : decode cX10_walls 2 = .ok (.invokestatic 128, 3) := by decide +kernel
theorem dX10_walls_5 : decode cX10_walls 5 = .ok (.ifCond .eq 9, 3) := by decide +kernel
theorem dX10_walls_8 : decode cX10_walls 8 = .ok (.aload_n 0, 1) := by decide +kernel
theorem dX10_walls_9 : decode cX10_walls 9 = .ok (.iconst (-1), 1) := by decide +kernel
theorem dX10_walls_10 : decode cX10_walls 10 = .ok (.invokevirtual 152, 3) := by decide +kernel
theorem dX10_walls_13 : decode cX10_walls 13 = .ok (.lreturn, 1) := by decide +kernel
theorem dX10_walls_14 : decode cX10_walls 14 = .ok (.iload_n 2, 1) := by decide +kernel
theorem dX10_walls_15 : decode cX10_walls 15 = .ok (.ifCond .lt 7, 3) := by decide +kernel
theorem dX10_walls_18 : decode cX10_walls 18 = .ok (.iload_n 3, 1) := by decide +kernel
theorem dX10_walls_19 : decode cX10_walls 19 = .ok (.ifCond .ge 10, 3) := by decide +kernel
theorem dX10_walls_22 : decode cX10_walls 22 = .ok (.aload_n 0, 1) := by decide +kernel
theorem dX10_walls_23 : decode cX10_walls 23 = .ok (.bipush (-4), 2) := by decide +kernel
theorem dX10_walls_25 : decode cX10_walls 25 = .ok (.invokevirtual 152, 3) := by decide +kernel
theorem dX10_walls_28 : decode cX10_walls 28 = .ok (.lreturn, 1) := by decide +kernel
theorem dX10_walls_29 : decode cX10_walls 29 = .ok (.iload_n 2, 1) := by decide +kernel
theorem dX10_walls_30 : decode cX10_walls 30 = .ok (.bipush 16, 2) := by decide +kernel
theorem dX10_walls_32 : decode cX10_walls 32 = .ok (.if_icmp .gt 8, 3) := by decide +kernel
theorem dX10_walls_35 : decode cX10_walls 35 = .ok (.iload_n 3, 1) := by decide +kernel
theorem dX10_walls_36 : decode cX10_walls 36 = .ok (.iload_n 2, 1) := by decide +kernel
theorem dX10_walls_37 : decode cX10_walls 37 = .ok (.if_icmp .le 10, 3) := by decide +kernel
theorem dX10_walls_40 : decode cX10_walls 40 = .ok (.aload_n 0, 1) := by decide +kernel
theorem dX10_walls_41 : decode cX10_walls 41 = .ok (.bipush (-6), 2) := by decide +kernel
theorem dX10_walls_43 : decode cX10_walls 43 = .ok (.invokevirtual 152, 3) := by decide +kernel
theorem dX10_walls_46 : decode cX10_walls 46 = .ok (.lreturn, 1) := by decide +kernel
theorem dX10_walls_47 : decode cX10_walls 47 = .ok (.aload_n 0, 1) := by decide +kernel
theorem dX10_walls_48 : decode cX10_walls 48 = .ok (.getfield 61, 3) := by decide +kernel
theorem dX10_walls_51 : decode cX10_walls 51 = .ok (.iload_n 1, 1) := by decide +kernel
theorem dX10_walls_52 : decode cX10_walls 52 = .ok (.invokevirtual 211, 3) := by decide +kernel
theorem dX10_walls_55 : decode cX10_walls 55 = .ok (.ifCond .eq 10, 3) := by decide +kernel
theorem dX10_walls_58 : decode cX10_walls 58 = .ok (.aload_n 0, 1) := by decide +kernel
theorem dX10_walls_59 : decode cX10_walls 59 = .ok (.bipush (-11), 2) := by decide +kernel
theorem dX10_walls_61 : decode cX10_walls 61 = .ok (.invokevirtual 152, 3) := by decide +kernel
theorem dX10_walls_64 : decode cX10_walls 64 = .ok (.lreturn, 1) := by decide +kernel
theorem dX10_walls_65 : decode cX10_walls 65 = .ok (.aload_n 0, 1) := by decide +kernel
theorem dX10_walls_66 : decode cX10_walls 66 = .ok (.getfield 61, 3) := by decide +kernel
theorem dX10_walls_69 : decode cX10_walls 69 = .ok (.iload_n 1, 1) := by decide +kernel
theorem dX10_walls_70 : decode cX10_walls 70 = .ok (.invokevirtual 214, 3) := by decide +kernel
theorem dX10_walls_73 : decode cX10_walls 73 = .ok (.ifCond .eq 18, 3) := by decide +kernel
theorem dX10_walls_76 : decode cX10_walls 76 = .ok (.iload_n 2, 1) := by decide +kernel
theorem dX10_walls_77 : decode cX10_walls 77 = .ok (.aload_n 0, 1) := by decide +kernel
theorem dX10_walls_78 : decode cX10_walls 78 = .ok (.getfield 61, 3) := by decide +kernel
theorem dX10_walls_81 : decode cX10_walls 81 = .ok (.getfield 217, 3) := by decide +kernel
theorem dX10_walls_84 : decode cX10_walls 84 = .ok (.iload_n 1, 1) := by decide +kernel
theorem dX10_walls_85 : decode cX10_walls 85 = .ok (.iaload, 1) := by decide +kernel
theorem dX10_walls_86 : decode cX10_walls 86 = .ok (.iconst 1, 1) := by decide +kernel
theorem dX10_walls_87 : decode cX10_walls 87 = .ok (.isub, 1) := by decide +kernel
theorem dX10_walls_88 : decode cX10_walls 88 = .ok (.if_icmp .ge 10, 3) := by decide +kernel
theorem dX10_walls_91 : decode cX10_walls 91 = .ok (.aload_n 0, 1) := by decide +kernel
theorem dX10_walls_92 : decode cX10_walls 92 = .ok (.bipush (-3), 2) := by decide +kernel
theorem dX10_walls_94 : decode cX10_walls 94 = .ok (.invokevirtual 152, 3) := by decide +kernel
theorem dX10_walls_97 : decode cX10_walls 97 = .ok (.lreturn, 1) := by decide +kernel
theorem dX10_walls_98 : decode cX10_walls 98 = .ok (.aload_n 0, 1) := by decide +kernel
theorem dX10_walls_99 : decode cX10_walls 99 = .ok (.getfield 61, 3) := by decide +kernel
theorem dX10_walls_102 : decode cX10_walls 102 = .ok (.iload_n 1, 1) := by decide +kernel
theorem dX10_walls_103 : decode cX10_walls 103 = .ok (.iload_n 2, 1) := by decide +kernel
theorem dX10_walls_104 : decode cX10_walls 104 = .ok (.iload_n 3, 1) := by decide +kernel
theorem dX10_walls_105 : decode cX10_walls 105 = .ok (.invokevirtual 219, 3) := by decide +kernel
theorem dX10_walls_108 : decode cX10_walls 108 = .ok (.lreturn, 1) := by decide +kernel
theorem dX10_wallsLeast_0 : decode cX10_wallsLeast 0 = .ok (.iload_n 1, 1) := by decide +kernel
theorem dX10_wallsLeast_1 : decode cX10_wallsLeast 1 = .ok (.iconst 3, 1) := by decide +kernel
theorem dX10_wallsLeast_2 : decode cX10_wallsLeast 2 = .ok (.invokestatic 128, 3) := by decide +kernel
theorem dX10_wallsLeast_5 : decode cX10_wallsLeast 5 = .ok (.ifCond .eq 9, 3) := by decide +kernel
theorem dX10_wallsLeast_8 : decode cX10_wallsLeast 8 = .ok (.aload_n 0, 1) := by decide +kernel
theorem dX10_wallsLeast_9 : decode cX10_wallsLeast 9 = .ok (.iconst (-1), 1) := by decide +kernel
theorem dX10_wallsLeast_10 : decode cX10_wallsLeast 10 = .ok (.invokevirtual 69, 3) := by decide +kernel
theorem dX10_wallsLeast_13 : decode cX10_wallsLeast 13 = .ok (.ireturn, 1) := by decide +kernel
theorem dX10_wallsLeast_14 : decode cX10_wallsLeast 14 = .ok (.iload_n 2, 1) := by decide +kernel
theorem dX10_wallsLeast_15 : decode cX10_wallsLeast 15 = .ok (.iconst 2, 1) := by decide +kernel
theorem dX10_wallsLeast_16 : decode cX10_wallsLeast 16 = .ok (.invokestatic 128, 3) := by decide +kernel
theorem dX10_wallsLeast_19 : decode cX10_wallsLeast 19 = .ok (.ifCond .eq 10, 3) := by decide +kernel
theorem dX10_wallsLeast_22 : decode cX10_wallsLeast 22 = .ok (.aload_n 0, 1) := by decide +kernel
theorem dX10_wallsLeast_23 : decode cX10_wallsLeast 23 = .ok (.bipush (-2), 2) := by decide +kernel
theorem dX10_wallsLeast_25 : decode cX10_wallsLeast 25 = .ok (.invokevirtual 69, 3) := by decide +kernel
theorem dX10_wallsLeast_28 : decode cX10_wallsLeast 28 = .ok (.ireturn, 1) := by decide +kernel
theorem dX10_wallsLeast_29 : decode cX10_wallsLeast 29 = .ok (.aload_n 0, 1) := by decide +kernel
theorem dX10_wallsLeast_30 : decode cX10_wallsLeast 30 = .ok (.getfield 61, 3) := by decide +kernel
theorem dX10_wallsLeast_33 : decode cX10_wallsLeast 33 = .ok (.iload_n 1, 1) := by decide +kernel
theorem dX10_wallsLeast_34 : decode cX10_wallsLeast 34 = .ok (.invokevirtual 211, 3) := by decide +kernel
theorem dX10_wallsLeast_37 : decode cX10_wallsLeast 37 = .ok (.ifCond .eq 6, 3) := by decide +kernel
theorem dX10_wallsLeast_40 : decode cX10_wallsLeast 40 = .ok (.bipush (-11), 2) := by decide +kernel
theorem dX10_wallsLeast_42 : decode cX10_wallsLeast 42 = .ok (.ireturn, 1) := by decide +kernel
theorem dX10_wallsLeast_43 : decode cX10_wallsLeast 43 = .ok (.aload_n 0, 1) := by decide +kernel
theorem dX10_wallsLeast_44 : decode cX10_wallsLeast 44 = .ok (.getfield 61, 3) := by decide +kernel
theorem dX10_wallsLeast_47 : decode cX10_wallsLeast 47 = .ok (.iload_n 1, 1) := by decide +kernel
theorem dX10_wallsLeast_48 : decode cX10_wallsLeast 48 = .ok (.invokevirtual 214, 3) := by decide +kernel
theorem dX10_wallsLeast_51 : decode cX10_wallsLeast 51 = .ok (.ifCond .ne 10, 3) := by decide +kernel
theorem dX10_wallsLeast_54 : decode cX10_wallsLeast 54 = .ok (.aload_n 0, 1) := by decide +kernel
theorem dX10_wallsLeast_55 : decode cX10_wallsLeast 55 = .ok (.bipush (-3), 2) := by decide +kernel
theorem dX10_wallsLeast_57 : decode cX10_wallsLeast 57 = .ok (.invokevirtual 69, 3) := by decide +kernel
theorem dX10_wallsLeast_60 : decode cX10_wallsLeast 60 = .ok (.ireturn, 1) := by decide +kernel
theorem dX10_wallsLeast_61 : decode cX10_wallsLeast 61 = .ok (.iconst 0, 1) := by decide +kernel
theorem dX10_wallsLeast_62 : decode cX10_wallsLeast 62 = .ok (.aload_n 0, 1) := by decide +kernel
theorem dX10_wallsLeast_63 : decode cX10_wallsLeast 63 = .ok (.getfield 61, 3) := by decide +kernel
theorem dX10_wallsLeast_66 : decode cX10_wallsLeast 66 = .ok (.getfield 217, 3) := by decide +kernel
theorem dX10_wallsLeast_69 : decode cX10_wallsLeast 69 = .ok (.iload_n 1, 1) := by decide +kernel
theorem dX10_wallsLeast_70 : decode cX10_wallsLeast 70 = .ok (.iaload, 1) := by decide +kernel
theorem dX10_wallsLeast_71 : decode cX10_wallsLeast 71 = .ok (.iconst 1, 1) := by decide +kernel
theorem dX10_wallsLeast_72 : decode cX10_wallsLeast 72 = .ok (.isub, 1) := by decide +kernel
theorem dX10_wallsLeast_73 : decode cX10_wallsLeast 73 = .ok (.invokestatic 222, 3) := by decide +kernel
theorem dX10_wallsLeast_76 : decode cX10_wallsLeast 76 = .ok (.istore_n 3, 1) := by decide +kernel
theorem dX10_wallsLeast_77 : decode cX10_wallsLeast 77 = .ok (.iload_n 3, 1) := by decide +kernel
theorem dX10_wallsLeast_78 : decode cX10_wallsLeast 78 = .ok (.bipush 16, 2) := by decide +kernel
theorem dX10_wallsLeast_80 : decode cX10_wallsLeast 80 = .ok (.if_icmp .gt 24, 3) := by decide +kernel
theorem dX10_wallsLeast_83 : decode cX10_wallsLeast 83 = .ok (.aload_n 0, 1) := by decide +kernel
theorem dX10_wallsLeast_84 : decode cX10_wallsLeast 84 = .ok (.getfield 61, 3) := by decide +kernel
theorem dX10_wallsLeast_87 : decode cX10_wallsLeast 87 = .ok (.iload_n 1, 1) := by decide +kernel
theorem dX10_wallsLeast_88 : decode cX10_wallsLeast 88 = .ok (.iload_n 3, 1) := by decide +kernel
theorem dX10_wallsLeast_89 : decode cX10_wallsLeast 89 = .ok (.iload_n 2, 1) := by decide +kernel
theorem dX10_wallsLeast_90 : decode cX10_wallsLeast 90 = .ok (.invokevirtual 227, 3) := by decide +kernel
theorem dX10_wallsLeast_93 : decode cX10_wallsLeast 93 = .ok (.ifCond .eq 5, 3) := by decide +kernel
theorem dX10_wallsLeast_96 : decode cX10_wallsLeast 96 = .ok (.iload_n 3, 1) := by decide +kernel
theorem dX10_wallsLeast_97 : decode cX10_wallsLeast 97 = .ok (.ireturn, 1) := by decide +kernel
theorem dX10_wallsLeast_98 : decode cX10_wallsLeast 98 = .ok (.iinc 3 1, 3) := by decide +kernel
theorem dX10_wallsLeast_101 : decode cX10_wallsLeast 101 = .ok (.goto (-24), 3) := by decide +kernel
theorem dX10_wallsLeast_104 : decode cX10_wallsLeast 104 = .ok (.bipush (-9), 2) := by decide +kernel
theorem dX10_wallsLeast_106 : decode cX10_wallsLeast 106 = .ok (.ireturn, 1) := by decide +kernel
theorem dX10_sum_0 : decode cX10_sum 0 = .ok (.aload_n 0, 1) := by decide +kernel
theorem dX10_sum_1 : decode cX10_sum 1 = .ok (.getfield 10, 3) := by decide +kernel
theorem dX10_sum_4 : decode cX10_sum 4 = .ok (.iload_n 1, 1) := by decide +kernel
theorem dX10_sum_5 : decode cX10_sum 5 = .ok (.invokevirtual 107, 3) := by decide +kernel
theorem dX10_sum_8 : decode cX10_sum 8 = .ok (.ifCond .ne 14, 3) := by decide +kernel
theorem dX10_sum_11 : decode cX10_sum 11 = .ok (.aload_n 0, 1) := by decide +kernel
theorem dX10_sum_12 : decode cX10_sum 12 = .ok (.getfield 10, 3) := by decide +kernel
theorem dX10_sum_15 : decode cX10_sum 15 = .ok (.iload_n 2, 1) := by decide +kernel
theorem dX10_sum_16 : decode cX10_sum 16 = .ok (.invokevirtual 107, 3) := by decide +kernel
theorem dX10_sum_19 : decode cX10_sum 19 = .ok (.ifCond .eq 9, 3) := by decide +kernel
theorem dX10_sum_22 : decode cX10_sum 22 = .ok (.aload_n 0, 1) := by decide +kernel
theorem dX10_sum_23 : decode cX10_sum 23 = .ok (.iconst (-1), 1) := by decide +kernel
theorem dX10_sum_24 : decode cX10_sum 24 = .ok (.invokevirtual 69, 3) := by decide +kernel
theorem dX10_sum_27 : decode cX10_sum 27 = .ok (.ireturn, 1) := by decide +kernel
theorem dX10_sum_28 : decode cX10_sum 28 = .ok (.aload_n 0, 1) := by decide +kernel
theorem dX10_sum_29 : decode cX10_sum 29 = .ok (.getfield 10, 3) := by decide +kernel
theorem dX10_sum_32 : decode cX10_sum 32 = .ok (.getfield 85, 3) := by decide +kernel
theorem dX10_sum_35 : decode cX10_sum 35 = .ok (.iload_n 1, 1) := by decide +kernel
theorem dX10_sum_36 : decode cX10_sum 36 = .ok (.aaload, 1) := by decide +kernel
theorem dX10_sum_37 : decode cX10_sum 37 = .ok (.getfield 137, 3) := by decide +kernel
theorem dX10_sum_40 : decode cX10_sum 40 = .ok (.aload_n 0, 1) := by decide +kernel
theorem dX10_sum_41 : decode cX10_sum 41 = .ok (.getfield 10, 3) := by decide +kernel
theorem dX10_sum_44 : decode cX10_sum 44 = .ok (.getfield 85, 3) := by decide +kernel
theorem dX10_sum_47 : decode cX10_sum 47 = .ok (.iload_n 2, 1) := by decide +kernel
theorem dX10_sum_48 : decode cX10_sum 48 = .ok (.aaload, 1) := by decide +kernel
theorem dX10_sum_49 : decode cX10_sum 49 = .ok (.getfield 137, 3) := by decide +kernel
theorem dX10_sum_52 : decode cX10_sum 52 = .ok (.if_icmp .eq 10, 3) := by decide +kernel
theorem dX10_sum_55 : decode cX10_sum 55 = .ok (.aload_n 0, 1) := by decide +kernel
theorem dX10_sum_56 : decode cX10_sum 56 = .ok (.bipush (-3), 2) := by decide +kernel
theorem dX10_sum_58 : decode cX10_sum 58 = .ok (.invokevirtual 69, 3) := by decide +kernel
theorem dX10_sum_61 : decode cX10_sum 61 = .ok (.ireturn, 1) := by decide +kernel
theorem dX10_sum_62 : decode cX10_sum 62 = .ok (.aload_n 0, 1) := by decide +kernel
theorem dX10_sum_63 : decode cX10_sum 63 = .ok (.aload_n 0, 1) := by decide +kernel
theorem dX10_sum_64 : decode cX10_sum 64 = .ok (.getfield 10, 3) := by decide +kernel
theorem dX10_sum_67 : decode cX10_sum 67 = .ok (.iload_n 1, 1) := by decide +kernel
theorem dX10_sum_68 : decode cX10_sum 68 = .ok (.iload_n 2, 1) := by decide +kernel
theorem dX10_sum_69 : decode cX10_sum 69 = .ok (.invokevirtual 244, 3) := by decide +kernel
theorem dX10_sum_72 : decode cX10_sum 72 = .ok (.invokevirtual 94, 3) := by decide +kernel
theorem dX10_sum_75 : decode cX10_sum 75 = .ok (.ireturn, 1) := by decide +kernel
theorem dX10_product_0 : decode cX10_product 0 = .ok (.aload_n 0, 1) := by decide +kernel
theorem dX10_product_1 : decode cX10_product 1 = .ok (.getfield 10, 3) := by decide +kernel
theorem dX10_product_4 : decode cX10_product 4 = .ok (.iload_n 1, 1) := by decide +kernel
theorem dX10_product_5 : decode cX10_product 5 = .ok (.invokevirtual 107, 3) := by decide +kernel
theorem dX10_product_8 : decode cX10_product 8 = .ok (.ifCond .ne 14, 3) := by decide +kernel
theorem dX10_product_11 : decode cX10_product 11 = .ok (.aload_n 0, 1) := by decide +kernel
theorem dX10_product_12 : decode cX10_product 12 = .ok (.getfield 10, 3) := by decide +kernel
theorem dX10_product_15 : decode cX10_product 15 = .ok (.iload_n 2, 1) := by decide +kernel
theorem dX10_product_16 : decode cX10_product 16 = .ok (.invokevirtual 107, 3) := by decide +kernel
theorem dX10_product_19 : decode cX10_product 19 = .ok (.ifCond .eq 9, 3) := by decide +kernel
theorem dX10_product_22 : decode cX10_product 22 = .ok (.aload_n 0, 1) := by decide +kernel
theorem dX10_product_23 : decode cX10_product 23 = .ok (.iconst (-1), 1) := by decide +kernel
theorem dX10_product_24 : decode cX10_product 24 = .ok (.invokevirtual 69, 3) := by decide +kernel
theorem dX10_product_27 : decode cX10_product 27 = .ok (.ireturn, 1) := by decide +kernel
theorem dX10_product_28 : decode cX10_product 28 = .ok (.aload_n 0, 1) := by decide +kernel
theorem dX10_product_29 : decode cX10_product 29 = .ok (.aload_n 0, 1) := by decide +kernel
theorem dX10_product_30 : decode cX10_product 30 = .ok (.getfield 10, 3) := by decide +kernel
theorem dX10_product_33 : decode cX10_product 33 = .ok (.iload_n 1, 1) := by decide +kernel
theorem dX10_product_34 : decode cX10_product 34 = .ok (.iload_n 2, 1) := by decide +kernel
theorem dX10_product_35 : decode cX10_product 35 = .ok (.invokevirtual 247, 3) := by decide +kernel
theorem dX10_product_38 : decode cX10_product 38 = .ok (.invokevirtual 94, 3) := by decide +kernel
theorem dX10_product_41 : decode cX10_product 41 = .ok (.ireturn, 1) := by decide +kernel
theorem dX10_lift_0 : decode cX10_lift 0 = .ok (.aload_n 0, 1) := by decide +kernel
theorem dX10_lift_1 : decode cX10_lift 1 = .ok (.getfield 10, 3) := by decide +kernel
theorem dX10_lift_4 : decode cX10_lift 4 = .ok (.iload_n 1, 1) := by decide +kernel
theorem dX10_lift_5 : decode cX10_lift 5 = .ok (.invokevirtual 107, 3) := by decide +kernel
theorem dX10_lift_8 : decode cX10_lift 8 = .ok (.ifCond .eq 9, 3) := by decide +kernel
theorem dX10_lift_11 : decode cX10_lift 11 = .ok (.aload_n 0, 1) := by decide +kernel
theorem dX10_lift_12 : decode cX10_lift 12 = .ok (.iconst (-1), 1) := by decide +kernel
theorem dX10_lift_13 : decode cX10_lift 13 = .ok (.invokevirtual 69, 3) := by decide +kernel
theorem dX10_lift_16 : decode cX10_lift 16 = .ok (.ireturn, 1) := by decide +kernel
theorem dX10_lift_17 : decode cX10_lift 17 = .ok (.iload_n 2, 1) := by decide +kernel
theorem dX10_lift_18 : decode cX10_lift 18 = .ok (.ifCond .ge 10, 3) := by decide +kernel
theorem dX10_lift_21 : decode cX10_lift 21 = .ok (.aload_n 0, 1) := by decide +kernel
theorem dX10_lift_22 : decode cX10_lift 22 = .ok (.bipush (-4), 2) := by decide +kernel
theorem dX10_lift_24 : decode cX10_lift 24 = .ok (.invokevirtual 69, 3) := by decide +kernel
theorem dX10_lift_27 : decode cX10_lift 27 = .ok (.ireturn, 1) := by decide +kernel
theorem dX10_lift_28 : decode cX10_lift 28 = .ok (.aload_n 0, 1) := by decide +kernel
theorem dX10_lift_29 : decode cX10_lift 29 = .ok (.aload_n 0, 1) := by decide +kernel
theorem dX10_lift_30 : decode cX10_lift 30 = .ok (.getfield 10, 3) := by decide +kernel
theorem dX10_lift_33 : decode cX10_lift 33 = .ok (.iload_n 1, 1) := by decide +kernel
theorem dX10_lift_34 : decode cX10_lift 34 = .ok (.iload_n 2, 1) := by decide +kernel
theorem dX10_lift_35 : decode cX10_lift 35 = .ok (.invokevirtual 250, 3) := by decide +kernel
theorem dX10_lift_38 : decode cX10_lift 38 = .ok (.invokevirtual 94, 3) := by decide +kernel
theorem dX10_lift_41 : decode cX10_lift 41 = .ok (.ireturn, 1) := by decide +kernel
theorem dX10_negative_0 : decode cX10_negative 0 = .ok (.aload_n 0, 1) := by decide +kernel
theorem dX10_negative_1 : decode cX10_negative 1 = .ok (.getfield 10, 3) := by decide +kernel
theorem dX10_negative_4 : decode cX10_negative 4 = .ok (.iload_n 1, 1) := by decide +kernel
theorem dX10_negative_5 : decode cX10_negative 5 = .ok (.invokevirtual 107, 3) := by decide +kernel
theorem dX10_negative_8 : decode cX10_negative 8 = .ok (.ifCond .eq 9, 3) := by decide +kernel
theorem dX10_negative_11 : decode cX10_negative 11 = .ok (.aload_n 0, 1) := by decide +kernel
theorem dX10_negative_12 : decode cX10_negative 12 = .ok (.iconst (-1), 1) := by decide +kernel
theorem dX10_negative_13 : decode cX10_negative 13 = .ok (.invokevirtual 69, 3) := by decide +kernel
theorem dX10_negative_16 : decode cX10_negative 16 = .ok (.ireturn, 1) := by decide +kernel
theorem dX10_negative_17 : decode cX10_negative 17 = .ok (.aload_n 0, 1) := by decide +kernel
theorem dX10_negative_18 : decode cX10_negative 18 = .ok (.aload_n 0, 1) := by decide +kernel
theorem dX10_negative_19 : decode cX10_negative 19 = .ok (.getfield 10, 3) := by decide +kernel
theorem dX10_negative_22 : decode cX10_negative 22 = .ok (.iload_n 1, 1) := by decide +kernel
theorem dX10_negative_23 : decode cX10_negative 23 = .ok (.invokevirtual 253, 3) := by decide +kernel
theorem dX10_negative_26 : decode cX10_negative 26 = .ok (.invokevirtual 94, 3) := by decide +kernel
theorem dX10_negative_29 : decode cX10_negative 29 = .ok (.ireturn, 1) := by decide +kernel
theorem dX10_on_0 : decode cX10_on 0 = .ok (.aload_n 0, 1) := by decide +kernel
theorem dX10_on_1 : decode cX10_on 1 = .ok (.getfield 10, 3) := by decide +kernel
theorem dX10_on_4 : decode cX10_on 4 = .ok (.iload_n 1, 1) := by decide +kernel
theorem dX10_on_5 : decode cX10_on 5 = .ok (.invokevirtual 107, 3) := by decide +kernel
theorem dX10_on_8 : decode cX10_on 8 = .ok (.ifCond .ne 10, 3) := by decide +kernel
theorem dX10_on_11 : decode cX10_on 11 = .ok (.iload_n 2, 1) := by decide +kernel
theorem dX10_on_12 : decode cX10_on 12 = .ok (.invokestatic 166, 3) := by decide +kernel
theorem dX10_on_15 : decode cX10_on 15 = .ok (.ifCond .ne 9, 3) := by decide +kernel
theorem dX10_on_18 : decode cX10_on 18 = .ok (.aload_n 0, 1) := by decide +kernel
theorem dX10_on_19 : decode cX10_on 19 = .ok (.iconst (-1), 1) := by decide +kernel
theorem dX10_on_20 : decode cX10_on 20 = .ok (.invokevirtual 69, 3) := by decide +kernel
theorem dX10_on_23 : decode cX10_on 23 = .ok (.ireturn, 1) := by decide +kernel
theorem dX10_on_24 : decode cX10_on 24 = .ok (.aload_n 0, 1) := by decide +kernel
theorem dX10_on_25 : decode cX10_on 25 = .ok (.aload_n 0, 1) := by decide +kernel
theorem dX10_on_26 : decode cX10_on 26 = .ok (.getfield 10, 3) := by decide +kernel
theorem dX10_on_29 : decode cX10_on 29 = .ok (.iload_n 1, 1) := by decide +kernel
theorem dX10_on_30 : decode cX10_on 30 = .ok (.iload_n 2, 1) := by decide +kernel
theorem dX10_on_31 : decode cX10_on 31 = .ok (.invokevirtual 256, 3) := by decide +kernel
theorem dX10_on_34 : decode cX10_on 34 = .ok (.invokevirtual 94, 3) := by decide +kernel
theorem dX10_on_37 : decode cX10_on 37 = .ok (.ireturn, 1) := by decide +kernel
theorem dX10_spelled_0 : decode cX10_spelled 0 = .ok (.aload_n 0, 1) := by decide +kernel
theorem dX10_spelled_1 : decode cX10_spelled 1 = .ok (.getfield 10, 3) := by decide +kernel
theorem dX10_spelled_4 : decode cX10_spelled 4 = .ok (.iload_n 1, 1) := by decide +kernel
theorem dX10_spelled_5 : decode cX10_spelled 5 = .ok (.invokevirtual 107, 3) := by decide +kernel
theorem dX10_spelled_8 : decode cX10_spelled 8 = .ok (.ifCond .eq 9, 3) := by decide +kernel
theorem dX10_spelled_11 : decode cX10_spelled 11 = .ok (.aload_n 0, 1) := by decide +kernel
theorem dX10_spelled_12 : decode cX10_spelled 12 = .ok (.iconst (-1), 1) := by decide +kernel
theorem dX10_spelled_13 : decode cX10_spelled 13 = .ok (.invokevirtual 69, 3) := by decide +kernel
theorem dX10_spelled_16 : decode cX10_spelled 16 = .ok (.ireturn, 1) := by decide +kernel
theorem dX10_spelled_17 : decode cX10_spelled 17 = .ok (.iload_n 2, 1) := by decide +kernel
theorem dX10_spelled_18 : decode cX10_spelled 18 = .ok (.iconst (-1), 1) := by decide +kernel
theorem dX10_spelled_19 : decode cX10_spelled 19 = .ok (.if_icmp .ge 10, 3) := by decide +kernel
theorem dX10_spelled_22 : decode cX10_spelled 22 = .ok (.aload_n 0, 1) := by decide +kernel
theorem dX10_spelled_23 : decode cX10_spelled 23 = .ok (.bipush (-4), 2) := by decide +kernel
theorem dX10_spelled_25 : decode cX10_spelled 25 = .ok (.invokevirtual 69, 3) := by decide +kernel
theorem dX10_spelled_28 : decode cX10_spelled 28 = .ok (.ireturn, 1) := by decide +kernel
theorem dX10_spelled_29 : decode cX10_spelled 29 = .ok (.aload_n 0, 1) := by decide +kernel
theorem dX10_spelled_30 : decode cX10_spelled 30 = .ok (.getfield 40, 3) := by decide +kernel
theorem dX10_spelled_33 : decode cX10_spelled 33 = .ok (.aload_n 0, 1) := by decide +kernel
theorem dX10_spelled_34 : decode cX10_spelled 34 = .ok (.getfield 10, 3) := by decide +kernel
theorem dX10_spelled_37 : decode cX10_spelled 37 = .ok (.getfield 85, 3) := by decide +kernel
theorem dX10_spelled_40 : decode cX10_spelled 40 = .ok (.iload_n 1, 1) := by decide +kernel
theorem dX10_spelled_41 : decode cX10_spelled 41 = .ok (.aaload, 1) := by decide +kernel
theorem dX10_spelled_42 : decode cX10_spelled 42 = .ok (.iload_n 2, 1) := by decide +kernel
theorem dX10_spelled_43 : decode cX10_spelled 43 = .ok (.invokevirtual 259, 3) := by decide +kernel
theorem dX10_spelled_46 : decode cX10_spelled 46 = .ok (.iload_n 2, 1) := by decide +kernel
theorem dX10_spelled_47 : decode cX10_spelled 47 = .ok (.iconst (-1), 1) := by decide +kernel
theorem dX10_spelled_48 : decode cX10_spelled 48 = .ok (.if_icmp .ne 13, 3) := by decide +kernel
theorem dX10_spelled_51 : decode cX10_spelled 51 = .ok (.aload_n 0, 1) := by decide +kernel
theorem dX10_spelled_52 : decode cX10_spelled 52 = .ok (.getfield 40, 3) := by decide +kernel
theorem dX10_spelled_55 : decode cX10_spelled 55 = .ok (.getfield 263, 3) := by decide +kernel
theorem dX10_spelled_58 : decode cX10_spelled 58 = .ok (.goto 10, 3) := by decide +kernel
theorem dX10_spelled_61 : decode cX10_spelled 61 = .ok (.aload_n 0, 1) := by decide +kernel
theorem dX10_spelled_62 : decode cX10_spelled 62 = .ok (.getfield 40, 3) := by decide +kernel
theorem dX10_spelled_65 : decode cX10_spelled 65 = .ok (.getfield 266, 3) := by decide +kernel
theorem dX10_spelled_68 : decode cX10_spelled 68 = .ok (.ireturn, 1) := by decide +kernel
theorem dX10_list_0 : decode cX10_list 0 = .ok (.iload_n 1, 1) := by decide +kernel
theorem dX10_list_1 : decode cX10_list 1 = .ok (.iconst 3, 1) := by decide +kernel
theorem dX10_list_2 : decode cX10_list 2 = .ok (.invokestatic 128, 3) := by decide +kernel
theorem dX10_list_5 : decode cX10_list 5 = .ok (.ifCond .eq 9, 3) := by decide +kernel
theorem dX10_list_8 : decode cX10_list 8 = .ok (.aload_n 0, 1) := by decide +kernel
theorem dX10_list_9 : decode cX10_list 9 = .ok (.iconst (-1), 1) := by decide +kernel
theorem dX10_list_10 : decode cX10_list 10 = .ok (.invokevirtual 69, 3) := by decide +kernel
theorem dX10_list_13 : decode cX10_list 13 = .ok (.ireturn, 1) := by decide +kernel
theorem dX10_list_14 : decode cX10_list 14 = .ok (.iload_n 2, 1) := by decide +kernel
theorem dX10_list_15 : decode cX10_list 15 = .ok (.bipush 40, 2) := by decide +kernel
theorem dX10_list_17 : decode cX10_list 17 = .ok (.if_icmp .le 10, 3) := by decide +kernel
theorem dX10_list_20 : decode cX10_list 20 = .ok (.aload_n 0, 1) := by decide +kernel
theorem dX10_list_21 : decode cX10_list 21 = .ok (.bipush (-6), 2) := by decide +kernel
theorem dX10_list_23 : decode cX10_list 23 = .ok (.invokevirtual 69, 3) := by decide +kernel
theorem dX10_list_26 : decode cX10_list 26 = .ok (.ireturn, 1) := by decide +kernel
theorem dX10_list_27 : decode cX10_list 27 = .ok (.iload_n 2, 1) := by decide +kernel
theorem dX10_list_28 : decode cX10_list 28 = .ok (.ifCond .ge 6, 3) := by decide +kernel
theorem dX10_list_31 : decode cX10_list 31 = .ok (.bipush (-14), 2) := by decide +kernel
theorem dX10_list_33 : decode cX10_list 33 = .ok (.ireturn, 1) := by decide +kernel
theorem dX10_list_34 : decode cX10_list 34 = .ok (.aload_n 0, 1) := by decide +kernel
theorem dX10_list_35 : decode cX10_list 35 = .ok (.getfield 61, 3) := by decide +kernel
theorem dX10_list_38 : decode cX10_list 38 = .ok (.iload_n 1, 1) := by decide +kernel
theorem dX10_list_39 : decode cX10_list 39 = .ok (.iload_n 2, 1) := by decide +kernel
theorem dX10_list_40 : decode cX10_list 40 = .ok (.invokevirtual 273, 3) := by decide +kernel
theorem dX10_list_43 : decode cX10_list 43 = .ok (.iconst 1, 1) := by decide +kernel
theorem dX10_list_44 : decode cX10_list 44 = .ok (.ireturn, 1) := by decide +kernel
