theorem dX10_notBelow_0 : decode cX10_notBelow 0 = .ok (.iload_n 0, 1) := by decide +kernel
theorem dX10_notBelow_1 : decode cX10_notBelow 1 = .ok (.ifCond .lt 8, 3) := by decide +kernel
theorem dX10_notBelow_4 : decode cX10_notBelow 4 = .ok (.iload_n 0, 1) := by decide +kernel
theorem dX10_notBelow_5 : decode cX10_notBelow 5 = .ok (.iload_n 1, 1) := by decide +kernel
theorem dX10_notBelow_6 : decode cX10_notBelow 6 = .ok (.if_icmp .lt 7, 3) := by decide +kernel
theorem dX10_notBelow_9 : decode cX10_notBelow 9 = .ok (.iconst 1, 1) := by decide +kernel
theorem dX10_notBelow_10 : decode cX10_notBelow 10 = .ok (.goto 4, 3) := by decide +kernel
theorem dX10_notBelow_13 : decode cX10_notBelow 13 = .ok (.iconst 0, 1) := by decide +kernel
theorem dX10_notBelow_14 : decode cX10_notBelow 14 = .ok (.ireturn, 1) := by decide +kernel
theorem dX3_at_0 : decode cX3_at 0 = .ok (.iload_n 1, 1) := by decide +kernel
theorem dX3_at_1 : decode cX3_at 1 = .ok (.aload_n 0, 1) := by decide +kernel
theorem dX3_at_2 : decode cX3_at 2 = .ok (.getfield 15, 3) := by decide +kernel
theorem dX3_at_5 : decode cX3_at 5 = .ok (.invokestatic 19, 3) := by decide +kernel
theorem dX3_at_8 : decode cX3_at 8 = .ok (.ifCond .eq 7, 3) := by decide +kernel
theorem dX3_at_11 : decode cX3_at 11 = .ok (.iconst (-1), 1) := by decide +kernel
theorem dX3_at_12 : decode cX3_at 12 = .ok (.goto 9, 3) := by decide +kernel
theorem dX3_at_15 : decode cX3_at 15 = .ok (.aload_n 0, 1) := by decide +kernel
theorem dX3_at_16 : decode cX3_at 16 = .ok (.getfield 9, 3) := by decide +kernel
theorem dX3_at_19 : decode cX3_at 19 = .ok (.iload_n 1, 1) := by decide +kernel
theorem dX3_at_20 : decode cX3_at 20 = .ok (.iaload, 1) := by decide +kernel
theorem dX3_at_21 : decode cX3_at 21 = .ok (.ireturn, 1) := by decide +kernel
theorem dX3_hasSmall_0 : decode cX3_hasSmall 0 = .ok (.aload_n 0, 1) := by decide +kernel
theorem dX3_hasSmall_1 : decode cX3_hasSmall 1 = .ok (.iload_n 1, 1) := by decide +kernel
theorem dX3_hasSmall_2 : decode cX3_hasSmall 2 = .ok (.invokevirtual 23, 3) := by decide +kernel
theorem dX3_hasSmall_5 : decode cX3_hasSmall 5 = .ok (.bipush 97, 2) := by decide +kernel
theorem dX3_hasSmall_7 : decode cX3_hasSmall 7 = .ok (.if_icmp .lt 17, 3) := by decide +kernel
theorem dX3_hasSmall_10 : decode cX3_hasSmall 10 = .ok (.aload_n 0, 1) := by decide +kernel
theorem dX3_hasSmall_11 : decode cX3_hasSmall 11 = .ok (.iload_n 1, 1) := by decide +kernel
theorem dX3_hasSmall_12 : decode cX3_hasSmall 12 = .ok (.invokevirtual 23, 3) := by decide +kernel
theorem dX3_hasSmall_15 : decode cX3_hasSmall 15 = .ok (.bipush 122, 2) := by decide +kernel
theorem dX3_hasSmall_17 : decode cX3_hasSmall 17 = .ok (.if_icmp .gt 7, 3) := by decide +kernel
theorem dX3_hasSmall_20 : decode cX3_hasSmall 20 = .ok (.iconst 1, 1) := by decide +kernel
theorem dX3_hasSmall_21 : decode cX3_hasSmall 21 = .ok (.goto 4, 3) := by decide +kernel
theorem dX3_hasSmall_24 : decode cX3_hasSmall 24 = .ok (.iconst 0, 1) := by decide +kernel
theorem dX3_hasSmall_25 : decode cX3_hasSmall 25 = .ok (.ireturn, 1) := by decide +kernel
theorem dX3_hasText_0 : decode cX3_hasText 0 = .ok (.iconst 0, 1) := by decide +kernel
theorem dX3_hasText_1 : decode cX3_hasText 1 = .ok (.istore_n 3, 1) := by decide +kernel
theorem dX3_hasText_2 : decode cX3_hasText 2 = .ok (.iload_n 3, 1) := by decide +kernel
theorem dX3_hasText_3 : decode cX3_hasText 3 = .ok (.aload_n 1, 1) := by decide +kernel
theorem dX3_hasText_4 : decode cX3_hasText 4 = .ok (.invokevirtual 27, 3) := by decide +kernel
theorem dX3_hasText_7 : decode cX3_hasText 7 = .ok (.if_icmp .ge 26, 3) := by decide +kernel
theorem dX3_hasText_10 : decode cX3_hasText 10 = .ok (.aload_n 0, 1) := by decide +kernel
theorem dX3_hasText_11 : decode cX3_hasText 11 = .ok (.iload_n 2, 1) := by decide +kernel
theorem dX3_hasText_12 : decode cX3_hasText 12 = .ok (.iload_n 3, 1) := by decide +kernel
theorem dX3_hasText_13 : decode cX3_hasText 13 = .ok (.iadd, 1) := by decide +kernel
theorem dX3_hasText_14 : decode cX3_hasText 14 = .ok (.invokevirtual 23, 3) := by decide +kernel
theorem dX3_hasText_17 : decode cX3_hasText 17 = .ok (.aload_n 1, 1) := by decide +kernel
theorem dX3_hasText_18 : decode cX3_hasText 18 = .ok (.iload_n 3, 1) := by decide +kernel
theorem dX3_hasText_19 : decode cX3_hasText 19 = .ok (.invokevirtual 33, 3) := by decide +kernel
theorem dX3_hasText_22 : decode cX3_hasText 22 = .ok (.if_icmp .eq 5, 3) := by decide +kernel
theorem dX3_hasText_25 : decode cX3_hasText 25 = .ok (.iconst 0, 1) := by decide +kernel
theorem dX3_hasText_26 : decode cX3_hasText 26 = .ok (.ireturn, 1) := by decide +kernel
theorem dX3_hasText_27 : decode cX3_hasText 27 = .ok (.iinc 3 1, 3) := by decide +kernel
theorem dX3_hasText_30 : decode cX3_hasText 30 = .ok (.goto (-28), 3) := by decide +kernel
theorem dX3_hasText_33 : decode cX3_hasText 33 = .ok (.iconst 1, 1) := by decide +kernel
theorem dX3_hasText_34 : decode cX3_hasText 34 = .ok (.ireturn, 1) := by decide +kernel
theorem dX0_wordAt_0 : decode cX0_wordAt 0 = .ok (.iload_n 1, 1) := by decide +kernel
theorem dX0_wordAt_1 : decode cX0_wordAt 1 = .ok (.istore_n 2, 1) := by decide +kernel
theorem dX0_wordAt_2 : decode cX0_wordAt 2 = .ok (.iload_n 2, 1) := by decide +kernel
theorem dX0_wordAt_3 : decode cX0_wordAt 3 = .ok (.aload_n 0, 1) := by decide +kernel
theorem dX0_wordAt_4 : decode cX0_wordAt 4 = .ok (.getfield 24, 3) := by decide +kernel
theorem dX0_wordAt_7 : decode cX0_wordAt 7 = .ok (.getfield 39, 3) := by decide +kernel
theorem dX0_wordAt_10 : decode cX0_wordAt 10 = .ok (.if_icmp .ge 20, 3) := by decide +kernel
theorem dX0_wordAt_13 : decode cX0_wordAt 13 = .ok (.aload_n 0, 1) := by decide +kernel
theorem dX0_wordAt_14 : decode cX0_wordAt 14 = .ok (.getfield 24, 3) := by decide +kernel
theorem dX0_wordAt_17 : decode cX0_wordAt 17 = .ok (.iload_n 2, 1) := by decide +kernel
theorem dX0_wordAt_18 : decode cX0_wordAt 18 = .ok (.invokevirtual 66, 3) := by decide +kernel
theorem dX0_wordAt_21 : decode cX0_wordAt 21 = .ok (.ifCond .eq 9, 3) := by decide +kernel
theorem dX0_wordAt_24 : decode cX0_wordAt 24 = .ok (.iinc 2 1, 3) := by decide +kernel
theorem dX0_wordAt_27 : decode cX0_wordAt 27 = .ok (.goto (-25), 3) := by decide +kernel
theorem dX0_wordAt_30 : decode cX0_wordAt 30 = .ok (.iconst 0, 1) := by decide +kernel
theorem dX0_wordAt_31 : decode cX0_wordAt 31 = .ok (.istore_n 3, 1) := by decide +kernel
theorem dX0_wordAt_32 : decode cX0_wordAt 32 = .ok (.iload_n 3, 1) := by decide +kernel
theorem dX0_wordAt_33 : decode cX0_wordAt 33 = .ok (.iconst 5, 1) := by decide +kernel
theorem dX0_wordAt_34 : decode cX0_wordAt 34 = .ok (.if_icmp .ge 41, 3) := by decide +kernel
theorem dX0_wordAt_37 : decode cX0_wordAt 37 = .ok (.iload_n 3, 1) := by decide +kernel
theorem dX0_wordAt_38 : decode cX0_wordAt 38 = .ok (.invokestatic 49, 3) := by decide +kernel
theorem dX0_wordAt_41 : decode cX0_wordAt 41 = .ok (.astore 4, 2) := by decide +kernel
theorem dX0_wordAt_43 : decode cX0_wordAt 43 = .ok (.aload 4, 2) := by decide +kernel
theorem dX0_wordAt_45 : decode cX0_wordAt 45 = .ok (.invokevirtual 53, 3) := by decide +kernel
theorem dX0_wordAt_48 : decode cX0_wordAt 48 = .ok (.iload_n 2, 1) := by decide +kernel
theorem dX0_wordAt_49 : decode cX0_wordAt 49 = .ok (.iload_n 1, 1) := by decide +kernel
theorem dX0_wordAt_50 : decode cX0_wordAt 50 = .ok (.isub, 1) := by decide +kernel
theorem dX0_wordAt_51 : decode cX0_wordAt 51 = .ok (.if_icmp .ne 18, 3) := by decide +kernel
theorem dX0_wordAt_54 : decode cX0_wordAt 54 = .ok (.aload_n 0, 1) := by decide +kernel
theorem dX0_wordAt_55 : decode cX0_wordAt 55 = .ok (.getfield 24, 3) := by decide +kernel
theorem dX0_wordAt_58 : decode cX0_wordAt 58 = .ok (.aload 4, 2) := by decide +kernel
theorem dX0_wordAt_60 : decode cX0_wordAt 60 = .ok (.iload_n 1, 1) := by decide +kernel
theorem dX0_wordAt_61 : decode cX0_wordAt 61 = .ok (.invokevirtual 69, 3) := by decide +kernel
theorem dX0_wordAt_64 : decode cX0_wordAt 64 = .ok (.ifCond .eq 5, 3) := by decide +kernel
theorem dX0_wordAt_67 : decode cX0_wordAt 67 = .ok (.iload_n 3, 1) := by decide +kernel
theorem dX0_wordAt_68 : decode cX0_wordAt 68 = .ok (.ireturn, 1) := by decide +kernel
theorem dX0_wordAt_69 : decode cX0_wordAt 69 = .ok (.iinc 3 1, 3) := by decide +kernel
theorem dX0_wordAt_72 : decode cX0_wordAt 72 = .ok (.goto (-40), 3) := by decide +kernel
theorem dX0_wordAt_75 : decode cX0_wordAt 75 = .ok (.iconst (-1), 1) := by decide +kernel
theorem dX0_wordAt_76 : decode cX0_wordAt 76 = .ok (.ireturn, 1) := by decide +kernel
theorem dX3_hasDigit_0 : decode cX3_hasDigit 0 = .ok (.aload_n 0, 1) := by decide +kernel
theorem dX3_hasDigit_1 : decode cX3_hasDigit 1 = .ok (.iload_n 1, 1) := by decide +kernel
theorem dX3_hasDigit_2 : decode cX3_hasDigit 2 = .ok (.invokevirtual 23, 3) := by decide +kernel
theorem dX3_hasDigit_5 : decode cX3_hasDigit 5 = .ok (.bipush 48, 2) := by decide +kernel
theorem dX3_hasDigit_7 : decode cX3_hasDigit 7 = .ok (.if_icmp .lt 17, 3) := by decide +kernel
theorem dX3_hasDigit_10 : decode cX3_hasDigit 10 = .ok (.aload_n 0, 1) := by decide +kernel
theorem dX3_hasDigit_11 : decode cX3_hasDigit 11 = .ok (.iload_n 1, 1) := by decide +kernel
theorem dX3_hasDigit_12 : decode cX3_hasDigit 12 = .ok (.invokevirtual 23, 3) := by decide +kernel
theorem dX3_hasDigit_15 : decode cX3_hasDigit 15 = .ok (.bipush 57, 2) := by decide +kernel
theorem dX3_hasDigit_17 : decode cX3_hasDigit 17 = .ok (.if_icmp .gt 7, 3) := by decide +kernel
theorem dX3_hasDigit_20 : decode cX3_hasDigit 20 = .ok (.iconst 1, 1) := by decide +kernel
theorem dX3_hasDigit_21 : decode cX3_hasDigit 21 = .ok (.goto 4, 3) := by decide +kernel
theorem dX3_hasDigit_24 : decode cX3_hasDigit 24 = .ok (.iconst 0, 1) := by decide +kernel
theorem dX3_hasDigit_25 : decode cX3_hasDigit 25 = .ok (.ireturn, 1) := by decide +kernel
theorem dX0_readNumber_0 : decode cX0_readNumber 0 = .ok (.aload_n 0, 1) := by decide +kernel
theorem dX0_readNumber_1 : decode cX0_readNumber 1 = .ok (.getfield 24, 3) := by decide +kernel
theorem dX0_readNumber_4 : decode cX0_readNumber 4 = .ok (.aload_n 0, 1) := by decide +kernel
theorem dX0_readNumber_5 : decode cX0_readNumber 5 = .ok (.getfield 28, 3) := by decide +kernel
theorem dX0_readNumber_8 : decode cX0_readNumber 8 = .ok (.invokevirtual 42, 3) := by decide +kernel
theorem dX0_readNumber_11 : decode cX0_readNumber 11 = .ok (.bipush 32, 2) := by decide +kernel
theorem dX0_readNumber_13 : decode cX0_readNumber 13 = .ok (.if_icmp .eq 5, 3) := by decide +kernel
theorem dX0_readNumber_16 : decode cX0_readNumber 16 = .ok (.iconst (-1), 1) := by decide +kernel
theorem dX0_readNumber_17 : decode cX0_readNumber 17 = .ok (.ireturn, 1) := by decide +kernel
theorem dX0_readNumber_18 : decode cX0_readNumber 18 = .ok (.aload_n 0, 1) := by decide +kernel
theorem dX0_readNumber_19 : decode cX0_readNumber 19 = .ok (.dup, 1) := by decide +kernel
theorem dX0_readNumber_20 : decode cX0_readNumber 20 = .ok (.getfield 28, 3) := by decide +kernel
theorem dX0_readNumber_23 : decode cX0_readNumber 23 = .ok (.iconst 1, 1) := by decide +kernel
theorem dX0_readNumber_24 : decode cX0_readNumber 24 = .ok (.iadd, 1) := by decide +kernel
theorem dX0_readNumber_25 : decode cX0_readNumber 25 = .ok (.putfield 28, 3) := by decide +kernel
theorem dX0_readNumber_28 : decode cX0_readNumber 28 = .ok (.aload_n 0, 1) := by decide +kernel
theorem dX0_readNumber_29 : decode cX0_readNumber 29 = .ok (.getfield 24, 3) := by decide +kernel
theorem dX0_readNumber_32 : decode cX0_readNumber 32 = .ok (.aload_n 0, 1) := by decide +kernel
theorem dX0_readNumber_33 : decode cX0_readNumber 33 = .ok (.getfield 28, 3) := by decide +kernel
theorem dX0_readNumber_36 : decode cX0_readNumber 36 = .ok (.invokevirtual 62, 3) := by decide +kernel
theorem dX0_readNumber_39 : decode cX0_readNumber 39 = .ok (.ifCond .ne 5, 3) := by decide +kernel
theorem dX0_readNumber_42 : decode cX0_readNumber 42 = .ok (.iconst (-1), 1) := by decide +kernel
theorem dX0_readNumber_43 : decode cX0_readNumber 43 = .ok (.ireturn, 1) := by decide +kernel
theorem dX0_readNumber_44 : decode cX0_readNumber 44 = .ok (.aload_n 0, 1) := by decide +kernel
theorem dX0_readNumber_45 : decode cX0_readNumber 45 = .ok (.dup, 1) := by decide +kernel
theorem dX0_readNumber_46 : decode cX0_readNumber 46 = .ok (.getfield 28, 3) := by decide +kernel
theorem dX0_readNumber_49 : decode cX0_readNumber 49 = .ok (.iconst 1, 1) := by decide +kernel
theorem dX0_readNumber_50 : decode cX0_readNumber 50 = .ok (.iadd, 1) := by decide +kernel
theorem dX0_readNumber_51 : decode cX0_readNumber 51 = .ok (.putfield 28, 3) := by decide +kernel
theorem dX0_readNumber_54 : decode cX0_readNumber 54 = .ok (.aload_n 0, 1) := by decide +kernel
theorem dX0_readNumber_55 : decode cX0_readNumber 55 = .ok (.getfield 24, 3) := by decide +kernel
theorem dX0_readNumber_58 : decode cX0_readNumber 58 = .ok (.aload_n 0, 1) := by decide +kernel
theorem dX0_readNumber_59 : decode cX0_readNumber 59 = .ok (.getfield 28, 3) := by decide +kernel
theorem dX0_readNumber_62 : decode cX0_readNumber 62 = .ok (.iconst 1, 1) := by decide +kernel
theorem dX0_readNumber_63 : decode cX0_readNumber 63 = .ok (.isub, 1) := by decide +kernel
theorem dX0_readNumber_64 : decode cX0_readNumber 64 = .ok (.invokevirtual 42, 3) := by decide +kernel
theorem dX0_readNumber_67 : decode cX0_readNumber 67 = .ok (.bipush 48, 2) := by decide +kernel
theorem dX0_readNumber_69 : decode cX0_readNumber 69 = .ok (.isub, 1) := by decide +kernel
theorem dX0_readNumber_70 : decode cX0_readNumber 70 = .ok (.ireturn, 1) := by decide +kernel
theorem dX0_readAct_0 : decode cX0_readAct 0 = .ok (.aload_n 0, 1) := by decide +kernel
theorem dX0_readAct_1 : decode cX0_readAct 1 = .ok (.getfield 15, 3) := by decide +kernel
theorem dX0_readAct_4 : decode cX0_readAct 4 = .ok (.aload_n 0, 1) := by decide +kernel
theorem dX0_readAct_5 : decode cX0_readAct 5 = .ok (.getfield 32, 3) := by decide +kernel
theorem dX0_readAct_8 : decode cX0_readAct 8 = .ok (.aload_n 0, 1) := by decide +kernel
theorem dX0_readAct_9 : decode cX0_readAct 9 = .ok (.getfield 28, 3) := by decide +kernel
theorem dX0_readAct_12 : decode cX0_readAct 12 = .ok (.iastore, 1) := by decide +kernel
theorem dX0_readAct_13 : decode cX0_readAct 13 = .ok (.aload_n 0, 1) := by decide +kernel
theorem dX0_readAct_14 : decode cX0_readAct 14 = .ok (.getfield 9, 3) := by decide +kernel
theorem dX0_readAct_17 : decode cX0_readAct 17 = .ok (.aload_n 0, 1) := by decide +kernel
theorem dX0_readAct_18 : decode cX0_readAct 18 = .ok (.getfield 32, 3) := by decide +kernel
theorem dX0_readAct_21 : decode cX0_readAct 21 = .ok (.aload_n 0, 1) := by decide +kernel
theorem dX0_readAct_22 : decode cX0_readAct 22 = .ok (.aload_n 0, 1) := by decide +kernel
theorem dX0_readAct_23 : decode cX0_readAct 23 = .ok (.getfield 28, 3) := by decide +kernel
theorem dX0_readAct_26 : decode cX0_readAct 26 = .ok (.invokevirtual 46, 3) := by decide +kernel
theorem dX0_readAct_29 : decode cX0_readAct 29 = .ok (.iastore, 1) := by decide +kernel
theorem dX0_readAct_30 : decode cX0_readAct 30 = .ok (.aload_n 0, 1) := by decide +kernel
theorem dX0_readAct_31 : decode cX0_readAct 31 = .ok (.getfield 9, 3) := by decide +kernel
theorem dX0_readAct_34 : decode cX0_readAct 34 = .ok (.aload_n 0, 1) := by decide +kernel
theorem dX0_readAct_35 : decode cX0_readAct 35 = .ok (.getfield 32, 3) := by decide +kernel
theorem dX0_readAct_38 : decode cX0_readAct 38 = .ok (.iaload, 1) := by decide +kernel
theorem dX0_readAct_39 : decode cX0_readAct 39 = .ok (.iconst (-1), 1) := by decide +kernel
theorem dX0_readAct_40 : decode cX0_readAct 40 = .ok (.if_icmp .ne 5, 3) := by decide +kernel
theorem dX0_readAct_43 : decode cX0_readAct 43 = .ok (.iconst 0, 1) := by decide +kernel
theorem dX0_readAct_44 : decode cX0_readAct 44 = .ok (.ireturn, 1) := by decide +kernel
theorem dX0_readAct_45 : decode cX0_readAct 45 = .ok (.aload_n 0, 1) := by decide +kernel
theorem dX0_readAct_46 : decode cX0_readAct 46 = .ok (.dup, 1) := by decide +kernel
theorem dX0_readAct_47 : decode cX0_readAct 47 = .ok (.getfield 28, 3) := by decide +kernel
theorem dX0_readAct_50 : decode cX0_readAct 50 = .ok (.aload_n 0, 1) := by decide +kernel
theorem dX0_readAct_51 : decode cX0_readAct 51 = .ok (.getfield 9, 3) := by decide +kernel
theorem dX0_readAct_54 : decode cX0_readAct 54 = .ok (.aload_n 0, 1) := by decide +kernel
theorem dX0_readAct_55 : decode cX0_readAct 55 = .ok (.getfield 32, 3) := by decide +kernel
theorem dX0_readAct_58 : decode cX0_readAct 58 = .ok (.iaload, 1) := by decide +kernel
theorem dX0_readAct_59 : decode cX0_readAct 59 = .ok (.invokestatic 49, 3) := by decide +kernel
theorem dX0_readAct_62 : decode cX0_readAct 62 = .ok (.invokevirtual 53, 3) := by decide +kernel
theorem dX0_readAct_65 : decode cX0_readAct 65 = .ok (.iadd, 1) := by decide +kernel
theorem dX0_readAct_66 : decode cX0_readAct 66 = .ok (.putfield 28, 3) := by decide +kernel
theorem dX0_readAct_69 : decode cX0_readAct 69 = .ok (.aload_n 0, 1) := by decide +kernel
theorem dX0_readAct_70 : decode cX0_readAct 70 = .ok (.getfield 18, 3) := by decide +kernel
theorem dX0_readAct_73 : decode cX0_readAct 73 = .ok (.aload_n 0, 1) := by decide +kernel
theorem dX0_readAct_74 : decode cX0_readAct 74 = .ok (.getfield 32, 3) := by decide +kernel
theorem dX0_readAct_77 : decode cX0_readAct 77 = .ok (.aload_n 0, 1) := by decide +kernel
theorem dX0_readAct_78 : decode cX0_readAct 78 = .ok (.invokevirtual 59, 3) := by decide +kernel
theorem dX0_readAct_81 : decode cX0_readAct 81 = .ok (.iastore, 1) := by decide +kernel
theorem dX0_readAct_82 : decode cX0_readAct 82 = .ok (.aload_n 0, 1) := by decide +kernel
theorem dX0_readAct_83 : decode cX0_readAct 83 = .ok (.getfield 18, 3) := by decide +kernel
theorem dX0_readAct_86 : decode cX0_readAct 86 = .ok (.aload_n 0, 1) := by decide +kernel
theorem dX0_readAct_87 : decode cX0_readAct 87 = .ok (.getfield 32, 3) := by decide +kernel
theorem dX0_readAct_90 : decode cX0_readAct 90 = .ok (.iaload, 1) := by decide +kernel
theorem dX0_readAct_91 : decode cX0_readAct 91 = .ok (.ifCond .ge 5, 3) := by decide +kernel
theorem dX0_readAct_94 : decode cX0_readAct 94 = .ok (.iconst 0, 1) := by decide +kernel
theorem dX0_readAct_95 : decode cX0_readAct 95 = .ok (.ireturn, 1) := by decide +kernel
theorem dX0_readAct_96 : decode cX0_readAct 96 = .ok (.aload_n 0, 1) := by decide +kernel
theorem dX0_readAct_97 : decode cX0_readAct 97 = .ok (.getfield 21, 3) := by decide +kernel
theorem dX0_readAct_100 : decode cX0_readAct 100 = .ok (.aload_n 0, 1) := by decide +kernel
theorem dX0_readAct_101 : decode cX0_readAct 101 = .ok (.getfield 32, 3) := by decide +kernel
theorem dX0_readAct_104 : decode cX0_readAct 104 = .ok (.aload_n 0, 1) := by decide +kernel
theorem dX0_readAct_105 : decode cX0_readAct 105 = .ok (.getfield 9, 3) := by decide +kernel
theorem dX0_readAct_108 : decode cX0_readAct 108 = .ok (.aload_n 0, 1) := by decide +kernel
theorem dX0_readAct_109 : decode cX0_readAct 109 = .ok (.getfield 32, 3) := by decide +kernel
theorem dX0_readAct_112 : decode cX0_readAct 112 = .ok (.iaload, 1) := by decide +kernel
theorem dX0_readAct_113 : decode cX0_readAct 113 = .ok (.iconst 3, 1) := by decide +kernel
theorem dX0_readAct_114 : decode cX0_readAct 114 = .ok (.if_icmp .ne 7, 3) := by decide +kernel
theorem dX0_readAct_117 : decode cX0_readAct 117 = .ok (.iconst 0, 1) := by decide +kernel
theorem dX0_readAct_118 : decode cX0_readAct 118 = .ok (.goto 7, 3) := by decide +kernel
theorem dX0_readAct_121 : decode cX0_readAct 121 = .ok (.aload_n 0, 1) := by decide +kernel
theorem dX0_readAct_122 : decode cX0_readAct 122 = .ok (.invokevirtual 59, 3) := by decide +kernel
theorem dX0_readAct_125 : decode cX0_readAct 125 = .ok (.iastore, 1) := by decide +kernel
theorem dX0_readAct_126 : decode cX0_readAct 126 = .ok (.aload_n 0, 1) := by decide +kernel
theorem dX0_readAct_127 : decode cX0_readAct 127 = .ok (.getfield 21, 3) := by decide +kernel
theorem dX0_readAct_130 : decode cX0_readAct 130 = .ok (.aload_n 0, 1) := by decide +kernel
theorem dX0_readAct_131 : decode cX0_readAct 131 = .ok (.getfield 32, 3) := by decide +kernel
theorem dX0_readAct_134 : decode cX0_readAct 134 = .ok (.iaload, 1) := by decide +kernel
theorem dX0_readAct_135 : decode cX0_readAct 135 = .ok (.ifCond .lt 7, 3) := by decide +kernel
theorem dX0_readAct_138 : decode cX0_readAct 138 = .ok (.iconst 1, 1) := by decide +kernel
theorem dX0_readAct_139 : decode cX0_readAct 139 = .ok (.goto 4, 3) := by decide +kernel
theorem dX0_readAct_142 : decode cX0_readAct 142 = .ok (.iconst 0, 1) := by decide +kernel
theorem dX0_readAct_143 : decode cX0_readAct 143 = .ok (.ireturn, 1) := by decide +kernel
theorem dX0_read_0 : decode cX0_read 0 = .ok (.aload_n 0, 1) := by decide +kernel
theorem dX0_read_1 : decode cX0_read 1 = .ok (.aload_n 1, 1) := by decide +kernel
theorem dX0_read_2 : decode cX0_read 2 = .ok (.putfield 24, 3) := by decide +kernel
theorem dX0_read_5 : decode cX0_read 5 = .ok (.aload_n 0, 1) := by decide +kernel
theorem dX0_read_6 : decode cX0_read 6 = .ok (.iconst 0, 1) := by decide +kernel
theorem dX0_read_7 : decode cX0_read 7 = .ok (.putfield 28, 3) := by decide +kernel
theorem dX0_read_10 : decode cX0_read 10 = .ok (.aload_n 0, 1) := by decide +kernel
theorem dX0_read_11 : decode cX0_read 11 = .ok (.iconst 0, 1) := by decide +kernel
theorem dX0_read_12 : decode cX0_read 12 = .ok (.putfield 32, 3) := by decide +kernel
theorem dX0_read_15 : decode cX0_read 15 = .ok (.aload_n 0, 1) := by decide +kernel
theorem dX0_read_16 : decode cX0_read 16 = .ok (.getfield 32, 3) := by decide +kernel
theorem dX0_read_19 : decode cX0_read 19 = .ok (.bipush 9, 2) := by decide +kernel
theorem dX0_read_21 : decode cX0_read 21 = .ok (.if_icmp .ge 75, 3) := by decide +kernel
theorem dX0_read_24 : decode cX0_read 24 = .ok (.aload_n 0, 1) := by decide +kernel
theorem dX0_read_25 : decode cX0_read 25 = .ok (.invokevirtual 35, 3) := by decide +kernel
theorem dX0_read_28 : decode cX0_read 28 = .ok (.ifCond .ne 8, 3) := by decide +kernel
theorem dX0_read_31 : decode cX0_read 31 = .ok (.aload_n 0, 1) := by decide +kernel
theorem dX0_read_32 : decode cX0_read 32 = .ok (.getfield 28, 3) := by decide +kernel
theorem dX0_read_35 : decode cX0_read 35 = .ok (.ireturn, 1) := by decide +kernel
theorem dX0_read_36 : decode cX0_read 36 = .ok (.aload_n 0, 1) := by decide +kernel
theorem dX0_read_37 : decode cX0_read 37 = .ok (.dup, 1) := by decide +kernel
theorem dX0_read_38 : decode cX0_read 38 = .ok (.getfield 32, 3) := by decide +kernel
theorem dX0_read_41 : decode cX0_read 41 = .ok (.iconst 1, 1) := by decide +kernel
theorem dX0_read_42 : decode cX0_read 42 = .ok (.iadd, 1) := by decide +kernel
theorem dX0_read_43 : decode cX0_read 43 = .ok (.putfield 32, 3) := by decide +kernel
theorem dX0_read_46 : decode cX0_read 46 = .ok (.aload_n 0, 1) := by decide +kernel
theorem dX0_read_47 : decode cX0_read 47 = .ok (.getfield 28, 3) := by decide +kernel
theorem dX0_read_50 : decode cX0_read 50 = .ok (.aload_n 0, 1) := by decide +kernel
theorem dX0_read_51 : decode cX0_read 51 = .ok (.getfield 24, 3) := by decide +kernel
theorem dX0_read_54 : decode cX0_read 54 = .ok (.getfield 39, 3) := by decide +kernel
theorem dX0_read_57 : decode cX0_read 57 = .ok (.if_icmp .lt 5, 3) := by decide +kernel
theorem dX0_read_60 : decode cX0_read 60 = .ok (.iconst (-1), 1) := by decide +kernel
theorem dX0_read_61 : decode cX0_read 61 = .ok (.ireturn, 1) := by decide +kernel
theorem dX0_read_62 : decode cX0_read 62 = .ok (.aload_n 0, 1) := by decide +kernel
theorem dX0_read_63 : decode cX0_read 63 = .ok (.getfield 24, 3) := by decide +kernel
theorem dX0_read_66 : decode cX0_read 66 = .ok (.aload_n 0, 1) := by decide +kernel
theorem dX0_read_67 : decode cX0_read 67 = .ok (.getfield 28, 3) := by decide +kernel
theorem dX0_read_70 : decode cX0_read 70 = .ok (.invokevirtual 42, 3) := by decide +kernel
theorem dX0_read_73 : decode cX0_read 73 = .ok (.bipush 59, 2) := by decide +kernel
theorem dX0_read_75 : decode cX0_read 75 = .ok (.if_icmp .eq 8, 3) := by decide +kernel
theorem dX0_read_78 : decode cX0_read 78 = .ok (.aload_n 0, 1) := by decide +kernel
theorem dX0_read_79 : decode cX0_read 79 = .ok (.getfield 28, 3) := by decide +kernel
theorem dX0_read_82 : decode cX0_read 82 = .ok (.ireturn, 1) := by decide +kernel
theorem dX0_read_83 : decode cX0_read 83 = .ok (.aload_n 0, 1) := by decide +kernel
theorem dX0_read_84 : decode cX0_read 84 = .ok (.dup, 1) := by decide +kernel
theorem dX0_read_85 : decode cX0_read 85 = .ok (.getfield 28, 3) := by decide +kernel
theorem dX0_read_88 : decode cX0_read 88 = .ok (.iconst 1, 1) := by decide +kernel
theorem dX0_read_89 : decode cX0_read 89 = .ok (.iadd, 1) := by decide +kernel
theorem dX0_read_90 : decode cX0_read 90 = .ok (.putfield 28, 3) := by decide +kernel
theorem dX0_read_93 : decode cX0_read 93 = .ok (.goto (-78), 3) := by decide +kernel
theorem dX0_read_96 : decode cX0_read 96 = .ok (.aload_n 0, 1) := by decide +kernel
theorem dX0_read_97 : decode cX0_read 97 = .ok (.getfield 28, 3) := by decide +kernel
theorem dX0_read_100 : decode cX0_read 100 = .ok (.ireturn, 1) := by decide +kernel
theorem dX1_makeNought_0 : decode cX1_makeNought 0 = .ok (.aload_n 0, 1) := by decide +kernel
theorem dX1_makeNought_1 : decode cX1_makeNought 1 = .ok (.iconst 0, 1) := by decide +kernel
theorem dX1_makeNought_2 : decode cX1_makeNought 2 = .ok (.putfield 15, 3) := by decide +kernel
theorem dX1_makeNought_5 : decode cX1_makeNought 5 = .ok (.aload_n 0, 1) := by decide +kernel
theorem dX1_makeNought_6 : decode cX1_makeNought 6 = .ok (.iconst 0, 1) := by decide +kernel
theorem dX1_makeNought_7 : decode cX1_makeNought 7 = .ok (.putfield 19, 3) := by decide +kernel
theorem dX1_makeNought_10 : decode cX1_makeNought 10 = .ok (.aload_n 0, 1) := by decide +kernel
theorem dX1_makeNought_11 : decode cX1_makeNought 11 = .ok (.iconst 0, 1) := by decide +kernel
theorem dX1_makeNought_12 : decode cX1_makeNought 12 = .ok (.putfield 22, 3) := by decide +kernel
theorem dX1_makeNought_15 : decode cX1_makeNought 15 = .ok (.iconst 0, 1) := by decide +kernel
theorem dX1_makeNought_16 : decode cX1_makeNought 16 = .ok (.istore_n 1, 1) := by decide +kernel
theorem dX1_makeNought_17 : decode cX1_makeNought 17 = .ok (.iload_n 1, 1) := by decide +kernel
theorem dX1_makeNought_18 : decode cX1_makeNought 18 = .ok (.bipush 28, 2) := by decide +kernel
theorem dX1_makeNought_20 : decode cX1_makeNought 20 = .ok (.if_icmp .ge 16, 3) := by decide +kernel
theorem dX1_makeNought_23 : decode cX1_makeNought 23 = .ok (.aload_n 0, 1) := by decide +kernel
theorem dX1_makeNought_24 : decode cX1_makeNought 24 = .ok (.getfield 9, 3) := by decide +kernel
theorem dX1_makeNought_27 : decode cX1_makeNought 27 = .ok (.iload_n 1, 1) := by decide +kernel
theorem dX1_makeNought_28 : decode cX1_makeNought 28 = .ok (.iconst 0, 1) := by decide +kernel
theorem dX1_makeNought_29 : decode cX1_makeNought 29 = .ok (.iastore, 1) := by decide +kernel
theorem dX1_makeNought_30 : decode cX1_makeNought 30 = .ok (.iinc 1 1, 3) := by decide +kernel
theorem dX1_makeNought_33 : decode cX1_makeNought 33 = .ok (.goto (-16), 3) := by decide +kernel
theorem dX1_makeNought_36 : decode cX1_makeNought 36 = .ok (.return_, 1) := by decide +kernel
theorem dX1_copyOf_0 : decode cX1_copyOf 0 = .ok (.aload_n 0, 1) := by decide +kernel
theorem dX1_copyOf_1 : decode cX1_copyOf 1 = .ok (.aload_n 1, 1) := by decide +kernel
theorem dX1_copyOf_2 : decode cX1_copyOf 2 = .ok (.getfield 15, 3) := by decide +kernel
theorem dX1_copyOf_5 : decode cX1_copyOf 5 = .ok (.putfield 15, 3) := by decide +kernel
theorem dX1_copyOf_8 : decode cX1_copyOf 8 = .ok (.aload_n 0, 1) := by decide +kernel
theorem dX1_copyOf_9 : decode cX1_copyOf 9 = .ok (.aload_n 1, 1) := by decide +kernel
theorem dX1_copyOf_10 : decode cX1_copyOf 10 = .ok (.getfield 19, 3) := by decide +kernel
theorem dX1_copyOf_13 : decode cX1_copyOf 13 = .ok (.putfield 19, 3) := by decide +kernel
theorem dX1_copyOf_16 : decode cX1_copyOf 16 = .ok (.aload_n 0, 1) := by decide +kernel
theorem dX1_copyOf_17 : decode cX1_copyOf 17 = .ok (.aload_n 1, 1) := by decide +kernel
theorem dX1_copyOf_18 : decode cX1_copyOf 18 = .ok (.getfield 22, 3) := by decide +kernel
theorem dX1_copyOf_21 : decode cX1_copyOf 21 = .ok (.putfield 22, 3) := by decide +kernel
theorem dX1_copyOf_24 : decode cX1_copyOf 24 = .ok (.iconst 0, 1) := by decide +kernel
theorem dX1_copyOf_25 : decode cX1_copyOf 25 = .ok (.istore_n 2, 1) := by decide +kernel
theorem dX1_copyOf_26 : decode cX1_copyOf 26 = .ok (.iload_n 2, 1) := by decide +kernel
theorem dX1_copyOf_27 : decode cX1_copyOf 27 = .ok (.bipush 28, 2) := by decide +kernel
theorem dX1_copyOf_29 : decode cX1_copyOf 29 = .ok (.if_icmp .ge 21, 3) := by decide +kernel
theorem dX1_copyOf_32 : decode cX1_copyOf 32 = .ok (.aload_n 0, 1) := by decide +kernel
theorem dX1_copyOf_33 : decode cX1_copyOf 33 = .ok (.getfield 9, 3) := by decide +kernel
theorem dX1_copyOf_36 : decode cX1_copyOf 36 = .ok (.iload_n 2, 1) := by decide +kernel
theorem dX1_copyOf_37 : decode cX1_copyOf 37 = .ok (.aload_n 1, 1) := by decide +kernel
theorem dX1_copyOf_38 : decode cX1_copyOf 38 = .ok (.getfield 9, 3) := by decide +kernel
theorem dX1_copyOf_41 : decode cX1_copyOf 41 = .ok (.iload_n 2, 1) := by decide +kernel
theorem dX1_copyOf_42 : decode cX1_copyOf 42 = .ok (.iaload, 1) := by decide +kernel
theorem dX1_copyOf_43 : decode cX1_copyOf 43 = .ok (.iastore, 1) := by decide +kernel
theorem dX1_copyOf_44 : decode cX1_copyOf 44 = .ok (.iinc 2 1, 3) := by decide +kernel
theorem dX1_copyOf_47 : decode cX1_copyOf 47 = .ok (.goto (-21), 3) := by decide +kernel
theorem dX1_copyOf_50 : decode cX1_copyOf 50 = .ok (.return_, 1) := by decide +kernel
theorem dX10_termOf_0 : decode cX10_termOf 0 = .ok (.iload_n 0, 1) := by decide +kernel
theorem dX10_termOf_1 : decode cX10_termOf 1 = .ok (.iload_n 1, 1) := by decide +kernel
theorem dX10_termOf_2 : decode cX10_termOf 2 = .ok (.iadd, 1) := by decide +kernel
theorem dX10_termOf_3 : decode cX10_termOf 3 = .ok (.iload_n 0, 1) := by decide +kernel
theorem dX10_termOf_4 : decode cX10_termOf 4 = .ok (.iload_n 1, 1) := by decide +kernel
theorem dX10_termOf_5 : decode cX10_termOf 5 = .ok (.iadd, 1) := by decide +kernel
theorem dX10_termOf_6 : decode cX10_termOf 6 = .ok (.iconst 1, 1) := by decide +kernel
theorem dX10_termOf_7 : decode cX10_termOf 7 = .ok (.iadd, 1) := by decide +kernel
theorem dX10_termOf_8 : decode cX10_termOf 8 = .ok (.imul, 1) := by decide +kernel
theorem dX10_termOf_9 : decode cX10_termOf 9 = .ok (.iconst 2, 1) := by decide +kernel
theorem dX10_termOf_10 : decode cX10_termOf 10 = .ok (.idiv, 1) := by decide +kernel
theorem dX10_termOf_11 : decode cX10_termOf 11 = .ok (.iload_n 1, 1) := by decide +kernel
theorem dX10_termOf_12 : decode cX10_termOf 12 = .ok (.iadd, 1) := by decide +kernel
theorem dX10_termOf_13 : decode cX10_termOf 13 = .ok (.ireturn, 1) := by decide +kernel
theorem dX1_has_0 : decode cX1_has 0 = .ok (.aload_n 0, 1) := by decide +kernel
theorem dX1_has_1 : decode cX1_has 1 = .ok (.getfield 15, 3) := by decide +kernel
theorem dX1_has_4 : decode cX1_has 4 = .ok (.tableswitch 120 1 5 #[36, 47, 68, 84, 95], 36) := by decide +kernel
theorem dX1_has_40 : decode cX1_has 40 = .ok (.aload_n 0, 1) := by decide +kernel
theorem dX1_has_41 : decode cX1_has 41 = .ok (.getfield 9, 3) := by decide +kernel
theorem dX1_has_44 : decode cX1_has 44 = .ok (.iload_n 3, 1) := by decide +kernel
theorem dX1_has_45 : decode cX1_has 45 = .ok (.iload_n 1, 1) := by decide +kernel
theorem dX1_has_46 : decode cX1_has 46 = .ok (.invokestatic 25, 3) := by decide +kernel
theorem dX1_has_49 : decode cX1_has 49 = .ok (.iaload, 1) := by decide +kernel
theorem dX1_has_50 : decode cX1_has 50 = .ok (.ireturn, 1) := by decide +kernel
theorem dX1_has_51 : decode cX1_has 51 = .ok (.iload_n 1, 1) := by decide +kernel
theorem dX1_has_52 : decode cX1_has 52 = .ok (.iconst 2, 1) := by decide +kernel
theorem dX1_has_53 : decode cX1_has 53 = .ok (.irem, 1) := by decide +kernel
theorem dX1_has_54 : decode cX1_has 54 = .ok (.ifCond .eq 7, 3) := by decide +kernel
theorem dX1_has_57 : decode cX1_has 57 = .ok (.iconst 0, 1) := by decide +kernel
theorem dX1_has_58 : decode cX1_has 58 = .ok (.goto 13, 3) := by decide +kernel
theorem dX1_has_61 : decode cX1_has 61 = .ok (.aload_n 0, 1) := by decide +kernel
theorem dX1_has_62 : decode cX1_has 62 = .ok (.getfield 9, 3) := by decide +kernel
theorem dX1_has_65 : decode cX1_has 65 = .ok (.iload_n 2, 1) := by decide +kernel
theorem dX1_has_66 : decode cX1_has 66 = .ok (.iload_n 3, 1) := by decide +kernel
theorem dX1_has_67 : decode cX1_has 67 = .ok (.invokestatic 25, 3) := by decide +kernel
theorem dX1_has_70 : decode cX1_has 70 = .ok (.iaload, 1) := by decide +kernel
theorem dX1_has_71 : decode cX1_has 71 = .ok (.ireturn, 1) := by decide +kernel
theorem dX1_has_72 : decode cX1_has 72 = .ok (.aload_n 0, 1) := by decide +kernel
theorem dX1_has_73 : decode cX1_has 73 = .ok (.getfield 9, 3) := by decide +kernel
theorem dX1_has_76 : decode cX1_has 76 = .ok (.iload_n 2, 1) := by decide +kernel
theorem dX1_has_77 : decode cX1_has 77 = .ok (.iload_n 3, 1) := by decide +kernel
theorem dX1_has_78 : decode cX1_has 78 = .ok (.invokestatic 25, 3) := by decide +kernel
theorem dX1_has_81 : decode cX1_has 81 = .ok (.iaload, 1) := by decide +kernel
theorem dX1_has_82 : decode cX1_has 82 = .ok (.aload_n 0, 1) := by decide +kernel
theorem dX1_has_83 : decode cX1_has 83 = .ok (.getfield 19, 3) := by decide +kernel
theorem dX1_has_86 : decode cX1_has 86 = .ok (.isub, 1) := by decide +kernel
theorem dX1_has_87 : decode cX1_has 87 = .ok (.ireturn, 1) := by decide +kernel
theorem dX1_has_88 : decode cX1_has 88 = .ok (.aload_n 0, 1) := by decide +kernel
theorem dX1_has_89 : decode cX1_has 89 = .ok (.getfield 9, 3) := by decide +kernel
theorem dX1_has_92 : decode cX1_has 92 = .ok (.iload_n 1, 1) := by decide +kernel
theorem dX1_has_93 : decode cX1_has 93 = .ok (.iload_n 2, 1) := by decide +kernel
theorem dX1_has_94 : decode cX1_has 94 = .ok (.invokestatic 25, 3) := by decide +kernel
theorem dX1_has_97 : decode cX1_has 97 = .ok (.iaload, 1) := by decide +kernel
theorem dX1_has_98 : decode cX1_has 98 = .ok (.ireturn, 1) := by decide +kernel
theorem dX1_has_99 : decode cX1_has 99 = .ok (.iload_n 3, 1) := by decide +kernel
theorem dX1_has_100 : decode cX1_has 100 = .ok (.ifCond .ne 9, 3) := by decide +kernel
theorem dX1_has_103 : decode cX1_has 103 = .ok (.iload_n 1, 1) := by decide +kernel
theorem dX1_has_104 : decode cX1_has 104 = .ok (.iconst 2, 1) := by decide +kernel
theorem dX1_has_105 : decode cX1_has 105 = .ok (.irem, 1) := by decide +kernel
theorem dX1_has_106 : decode cX1_has 106 = .ok (.ifCond .eq 7, 3) := by decide +kernel
theorem dX1_has_109 : decode cX1_has 109 = .ok (.iconst 0, 1) := by decide +kernel
theorem dX1_has_110 : decode cX1_has 110 = .ok (.goto 13, 3) := by decide +kernel
theorem dX1_has_113 : decode cX1_has 113 = .ok (.aload_n 0, 1) := by decide +kernel
theorem dX1_has_114 : decode cX1_has 114 = .ok (.getfield 9, 3) := by decide +kernel
theorem dX1_has_117 : decode cX1_has 117 = .ok (.iload_n 2, 1) := by decide +kernel
theorem dX1_has_118 : decode cX1_has 118 = .ok (.iload_n 3, 1) := by decide +kernel
theorem dX1_has_119 : decode cX1_has 119 = .ok (.invokestatic 25, 3) := by decide +kernel
theorem dX1_has_122 : decode cX1_has 122 = .ok (.iaload, 1) := by decide +kernel
theorem dX1_has_123 : decode cX1_has 123 = .ok (.ireturn, 1) := by decide +kernel
theorem dX1_has_124 : decode cX1_has 124 = .ok (.aload_n 0, 1) := by decide +kernel
theorem dX1_has_125 : decode cX1_has 125 = .ok (.getfield 9, 3) := by decide +kernel
theorem dX1_has_128 : decode cX1_has 128 = .ok (.iload_n 2, 1) := by decide +kernel
theorem dX1_has_129 : decode cX1_has 129 = .ok (.iload_n 3, 1) := by decide +kernel
theorem dX1_has_130 : decode cX1_has 130 = .ok (.invokestatic 25, 3) := by decide +kernel
theorem dX1_has_133 : decode cX1_has 133 = .ok (.iaload, 1) := by decide +kernel
theorem dX1_has_134 : decode cX1_has 134 = .ok (.ireturn, 1) := by decide +kernel
theorem dX10_behindA_0 : decode cX10_behindA 0 = .ok (.iconst 0, 1) := by decide +kernel
theorem dX10_behindA_1 : decode cX10_behindA 1 = .ok (.istore_n 1, 1) := by decide +kernel
theorem dX10_behindA_2 : decode cX10_behindA 2 = .ok (.iload_n 1, 1) := by decide +kernel
theorem dX10_behindA_3 : decode cX10_behindA 3 = .ok (.bipush 18, 2) := by decide +kernel
theorem dX10_behindA_5 : decode cX10_behindA 5 = .ok (.if_icmp .ge 20, 3) := by decide +kernel
theorem dX10_behindA_8 : decode cX10_behindA 8 = .ok (.iload_n 1, 1) := by decide +kernel
theorem dX10_behindA_9 : decode cX10_behindA 9 = .ok (.iconst 1, 1) := by decide +kernel
theorem dX10_behindA_10 : decode cX10_behindA 10 = .ok (.iadd, 1) := by decide +kernel
theorem dX10_behindA_11 : decode cX10_behindA 11 = .ok (.iconst 0, 1) := by decide +kernel
theorem dX10_behindA_12 : decode cX10_behindA 12 = .ok (.invokestatic 310, 3) := by decide +kernel
theorem dX10_behindA_15 : decode cX10_behindA 15 = .ok (.iload_n 0, 1) := by decide +kernel
theorem dX10_behindA_16 : decode cX10_behindA 16 = .ok (.if_icmp .gt 9, 3) := by decide +kernel
theorem dX10_behindA_19 : decode cX10_behindA 19 = .ok (.iinc 1 1, 3) := by decide +kernel
theorem dX10_behindA_22 : decode cX10_behindA 22 = .ok (.goto (-20), 3) := by decide +kernel
theorem dX10_behindA_25 : decode cX10_behindA 25 = .ok (.iload_n 1, 1) := by decide +kernel
theorem dX10_behindA_26 : decode cX10_behindA 26 = .ok (.ireturn, 1) := by decide +kernel
theorem dX1_at_0 : decode cX1_at 0 = .ok (.iload_n 1, 1) := by decide +kernel
theorem dX1_at_1 : decode cX1_at 1 = .ok (.invokestatic 29, 3) := by decide +kernel
theorem dX1_at_4 : decode cX1_at 4 = .ok (.istore_n 2, 1) := by decide +kernel
theorem dX1_at_5 : decode cX1_at 5 = .ok (.iload_n 1, 1) := by decide +kernel
theorem dX1_at_6 : decode cX1_at 6 = .ok (.iload_n 2, 1) := by decide +kernel
theorem dX1_at_7 : decode cX1_at 7 = .ok (.iconst 0, 1) := by decide +kernel
theorem dX1_at_8 : decode cX1_at 8 = .ok (.invokestatic 25, 3) := by decide +kernel
theorem dX1_at_11 : decode cX1_at 11 = .ok (.isub, 1) := by decide +kernel
theorem dX1_at_12 : decode cX1_at 12 = .ok (.istore_n 3, 1) := by decide +kernel
theorem dX1_at_13 : decode cX1_at 13 = .ok (.aload_n 0, 1) := by decide +kernel
theorem dX1_at_14 : decode cX1_at 14 = .ok (.aload_n 0, 1) := by decide +kernel
theorem dX1_at_15 : decode cX1_at 15 = .ok (.getfield 22, 3) := by decide +kernel
theorem dX1_at_18 : decode cX1_at 18 = .ok (.iload_n 2, 1) := by decide +kernel
theorem dX1_at_19 : decode cX1_at 19 = .ok (.isub, 1) := by decide +kernel
theorem dX1_at_20 : decode cX1_at 20 = .ok (.iload_n 2, 1) := by decide +kernel
theorem dX1_at_21 : decode cX1_at 21 = .ok (.iload_n 3, 1) := by decide +kernel
theorem dX1_at_22 : decode cX1_at 22 = .ok (.isub, 1) := by decide +kernel
theorem dX1_at_23 : decode cX1_at 23 = .ok (.iload_n 3, 1) := by decide +kernel
theorem dX1_at_24 : decode cX1_at 24 = .ok (.invokevirtual 33, 3) := by decide +kernel
theorem dX1_at_27 : decode cX1_at 27 = .ok (.ireturn, 1) := by decide +kernel
theorem dX10_termsOf_0 : decode cX10_termsOf 0 = .ok (.iload_n 0, 1) := by decide +kernel
theorem dX10_termsOf_1 : decode cX10_termsOf 1 = .ok (.iconst 1, 1) := by decide +kernel
theorem dX10_termsOf_2 : decode cX10_termsOf 2 = .ok (.iadd, 1) := by decide +kernel
theorem dX10_termsOf_3 : decode cX10_termsOf 3 = .ok (.iload_n 0, 1) := by decide +kernel
theorem dX10_termsOf_4 : decode cX10_termsOf 4 = .ok (.iconst 2, 1) := by decide +kernel
theorem dX10_termsOf_5 : decode cX10_termsOf 5 = .ok (.iadd, 1) := by decide +kernel
theorem dX10_termsOf_6 : decode cX10_termsOf 6 = .ok (.imul, 1) := by decide +kernel
theorem dX10_termsOf_7 : decode cX10_termsOf 7 = .ok (.iconst 2, 1) := by decide +kernel
theorem dX10_termsOf_8 : decode cX10_termsOf 8 = .ok (.idiv, 1) := by decide +kernel
theorem dX10_termsOf_9 : decode cX10_termsOf 9 = .ok (.ireturn, 1) := by decide +kernel
theorem dX1_howMany_0 : decode cX1_howMany 0 = .ok (.iconst 0, 1) := by decide +kernel
theorem dX1_howMany_1 : decode cX1_howMany 1 = .ok (.istore_n 2, 1) := by decide +kernel
theorem dX1_howMany_2 : decode cX1_howMany 2 = .ok (.iconst 0, 1) := by decide +kernel
theorem dX1_howMany_3 : decode cX1_howMany 3 = .ok (.istore_n 3, 1) := by decide +kernel
theorem dX1_howMany_4 : decode cX1_howMany 4 = .ok (.iload_n 3, 1) := by decide +kernel
theorem dX1_howMany_5 : decode cX1_howMany 5 = .ok (.aload_n 0, 1) := by decide +kernel
theorem dX1_howMany_6 : decode cX1_howMany 6 = .ok (.getfield 22, 3) := by decide +kernel
theorem dX1_howMany_9 : decode cX1_howMany 9 = .ok (.invokestatic 37, 3) := by decide +kernel
theorem dX1_howMany_12 : decode cX1_howMany 12 = .ok (.if_icmp .ge 36, 3) := by decide +kernel
theorem dX1_howMany_15 : decode cX1_howMany 15 = .ok (.aload_n 0, 1) := by decide +kernel
theorem dX1_howMany_16 : decode cX1_howMany 16 = .ok (.iload_n 3, 1) := by decide +kernel
theorem dX1_howMany_17 : decode cX1_howMany 17 = .ok (.invokevirtual 40, 3) := by decide +kernel
theorem dX1_howMany_20 : decode cX1_howMany 20 = .ok (.istore 4, 2) := by decide +kernel
theorem dX1_howMany_22 : decode cX1_howMany 22 = .ok (.iload_n 1, 1) := by decide +kernel
theorem dX1_howMany_23 : decode cX1_howMany 23 = .ok (.ifCond .eq 11, 3) := by decide +kernel
theorem dX1_howMany_26 : decode cX1_howMany 26 = .ok (.iload 4, 2) := by decide +kernel
theorem dX1_howMany_28 : decode cX1_howMany 28 = .ok (.ifCond .ge 14, 3) := by decide +kernel
theorem dX1_howMany_31 : decode cX1_howMany 31 = .ok (.goto 8, 3) := by decide +kernel
theorem dX1_howMany_34 : decode cX1_howMany 34 = .ok (.iload 4, 2) := by decide +kernel
theorem dX1_howMany_36 : decode cX1_howMany 36 = .ok (.ifCond .ne 6, 3) := by decide +kernel
theorem dX1_howMany_39 : decode cX1_howMany 39 = .ok (.iinc 2 1, 3) := by decide +kernel
theorem dX1_howMany_42 : decode cX1_howMany 42 = .ok (.iinc 3 1, 3) := by decide +kernel
theorem dX1_howMany_45 : decode cX1_howMany 45 = .ok (.goto (-41), 3) := by decide +kernel
theorem dX1_howMany_48 : decode cX1_howMany 48 = .ok (.iload_n 2, 1) := by decide +kernel
theorem dX1_howMany_49 : decode cX1_howMany 49 = .ok (.ireturn, 1) := by decide +kernel
theorem dX2_readNumber_0 : decode cX2_readNumber 0 = .ok (.aload_n 0, 1) := by decide +kernel
theorem dX2_readNumber_1 : decode cX2_readNumber 1 = .ok (.getfield 15, 3) := by decide +kernel
theorem dX2_readNumber_4 : decode cX2_readNumber 4 = .ok (.aload_n 0, 1) := by decide +kernel
theorem dX2_readNumber_5 : decode cX2_readNumber 5 = .ok (.getfield 19, 3) := by decide +kernel
theorem dX2_readNumber_8 : decode cX2_readNumber 8 = .ok (.invokevirtual 63, 3) := by decide +kernel
theorem dX2_readNumber_11 : decode cX2_readNumber 11 = .ok (.ifCond .ne 5, 3) := by decide +kernel
theorem dX2_readNumber_14 : decode cX2_readNumber 14 = .ok (.iconst 1, 1) := by decide +kernel
theorem dX2_readNumber_15 : decode cX2_readNumber 15 = .ok (.ireturn, 1) := by decide +kernel
theorem dX2_readNumber_16 : decode cX2_readNumber 16 = .ok (.iconst 0, 1) := by decide +kernel
theorem dX2_readNumber_17 : decode cX2_readNumber 17 = .ok (.istore_n 1, 1) := by decide +kernel
theorem dX2_readNumber_18 : decode cX2_readNumber 18 = .ok (.iconst 0, 1) := by decide +kernel
theorem dX2_readNumber_19 : decode cX2_readNumber 19 = .ok (.istore_n 2, 1) := by decide +kernel
theorem dX2_readNumber_20 : decode cX2_readNumber 20 = .ok (.iload_n 2, 1) := by decide +kernel
theorem dX2_readNumber_21 : decode cX2_readNumber 21 = .ok (.iconst 3, 1) := by decide +kernel
theorem dX2_readNumber_22 : decode cX2_readNumber 22 = .ok (.if_icmp .ge 53, 3) := by decide +kernel
theorem dX2_readNumber_25 : decode cX2_readNumber 25 = .ok (.aload_n 0, 1) := by decide +kernel
theorem dX2_readNumber_26 : decode cX2_readNumber 26 = .ok (.getfield 15, 3) := by decide +kernel
theorem dX2_readNumber_29 : decode cX2_readNumber 29 = .ok (.aload_n 0, 1) := by decide +kernel
theorem dX2_readNumber_30 : decode cX2_readNumber 30 = .ok (.getfield 19, 3) := by decide +kernel
theorem dX2_readNumber_33 : decode cX2_readNumber 33 = .ok (.invokevirtual 63, 3) := by decide +kernel
theorem dX2_readNumber_36 : decode cX2_readNumber 36 = .ok (.ifCond .eq 39, 3) := by decide +kernel
theorem dX2_readNumber_39 : decode cX2_readNumber 39 = .ok (.iload_n 1, 1) := by decide +kernel
theorem dX2_readNumber_40 : decode cX2_readNumber 40 = .ok (.bipush 10, 2) := by decide +kernel
theorem dX2_readNumber_42 : decode cX2_readNumber 42 = .ok (.imul, 1) := by decide +kernel
theorem dX2_readNumber_43 : decode cX2_readNumber 43 = .ok (.aload_n 0, 1) := by decide +kernel
theorem dX2_readNumber_44 : decode cX2_readNumber 44 = .ok (.getfield 15, 3) := by decide +kernel
theorem dX2_readNumber_47 : decode cX2_readNumber 47 = .ok (.aload_n 0, 1) := by decide +kernel
theorem dX2_readNumber_48 : decode cX2_readNumber 48 = .ok (.getfield 19, 3) := by decide +kernel
theorem dX2_readNumber_51 : decode cX2_readNumber 51 = .ok (.invokevirtual 31, 3) := by decide +kernel
theorem dX2_readNumber_54 : decode cX2_readNumber 54 = .ok (.iadd, 1) := by decide +kernel
theorem dX2_readNumber_55 : decode cX2_readNumber 55 = .ok (.bipush 48, 2) := by decide +kernel
theorem dX2_readNumber_57 : decode cX2_readNumber 57 = .ok (.isub, 1) := by decide +kernel
theorem dX2_readNumber_58 : decode cX2_readNumber 58 = .ok (.istore_n 1, 1) := by decide +kernel
theorem dX2_readNumber_59 : decode cX2_readNumber 59 = .ok (.aload_n 0, 1) := by decide +kernel
theorem dX2_readNumber_60 : decode cX2_readNumber 60 = .ok (.dup, 1) := by decide +kernel
theorem dX2_readNumber_61 : decode cX2_readNumber 61 = .ok (.getfield 19, 3) := by decide +kernel
theorem dX2_readNumber_64 : decode cX2_readNumber 64 = .ok (.iconst 1, 1) := by decide +kernel
theorem dX2_readNumber_65 : decode cX2_readNumber 65 = .ok (.iadd, 1) := by decide +kernel
theorem dX2_readNumber_66 : decode cX2_readNumber 66 = .ok (.putfield 19, 3) := by decide +kernel
theorem dX2_readNumber_69 : decode cX2_readNumber 69 = .ok (.iinc 2 1, 3) := by decide +kernel
theorem dX2_readNumber_72 : decode cX2_readNumber 72 = .ok (.goto (-52), 3) := by decide +kernel
theorem dX2_readNumber_75 : decode cX2_readNumber 75 = .ok (.iload_n 1, 1) := by decide +kernel
theorem dX2_readNumber_76 : decode cX2_readNumber 76 = .ok (.ireturn, 1) := by decide +kernel
theorem dX2_fits_0 : decode cX2_fits 0 = .ok (.aload_n 0, 1) := by decide +kernel
theorem dX2_fits_1 : decode cX2_fits 1 = .ok (.getfield 51, 3) := by decide +kernel
theorem dX2_fits_4 : decode cX2_fits 4 = .ok (.iload_n 1, 1) := by decide +kernel
theorem dX2_fits_5 : decode cX2_fits 5 = .ok (.iadd, 1) := by decide +kernel
theorem dX2_fits_6 : decode cX2_fits 6 = .ok (.aload_n 0, 1) := by decide +kernel
theorem dX2_fits_7 : decode cX2_fits 7 = .ok (.getfield 23, 3) := by decide +kernel
theorem dX2_fits_10 : decode cX2_fits 10 = .ok (.iconst (-1), 1) := by decide +kernel
theorem dX2_fits_11 : decode cX2_fits 11 = .ok (.if_icmp .ne 8, 3) := by decide +kernel
theorem dX2_fits_14 : decode cX2_fits 14 = .ok (.bipush 6, 2) := by decide +kernel
theorem dX2_fits_16 : decode cX2_fits 16 = .ok (.goto 7, 3) := by decide +kernel
theorem dX2_fits_19 : decode cX2_fits 19 = .ok (.aload_n 0, 1) := by decide +kernel
theorem dX2_fits_20 : decode cX2_fits 20 = .ok (.getfield 23, 3) := by decide +kernel
theorem dX2_fits_23 : decode cX2_fits 23 = .ok (.if_icmp .gt 7, 3) := by decide +kernel
theorem dX2_fits_26 : decode cX2_fits 26 = .ok (.iconst 1, 1) := by decide +kernel
theorem dX2_fits_27 : decode cX2_fits 27 = .ok (.goto 4, 3) := by decide +kernel
theorem dX2_fits_30 : decode cX2_fits 30 = .ok (.iconst 0, 1) := by decide +kernel
theorem dX2_fits_31 : decode cX2_fits 31 = .ok (.ireturn, 1) := by decide +kernel
theorem dX2_readPower_0 : decode cX2_readPower 0 = .ok (.aload_n 0, 1) := by decide +kernel
theorem dX2_readPower_1 : decode cX2_readPower 1 = .ok (.getfield 9, 3) := by decide +kernel
theorem dX2_readPower_4 : decode cX2_readPower 4 = .ok (.iload_n 1, 1) := by decide +kernel
theorem dX2_readPower_5 : decode cX2_readPower 5 = .ok (.iconst 0, 1) := by decide +kernel
theorem dX2_readPower_6 : decode cX2_readPower 6 = .ok (.iastore, 1) := by decide +kernel
theorem dX2_readPower_7 : decode cX2_readPower 7 = .ok (.aload_n 0, 1) := by decide +kernel
theorem dX2_readPower_8 : decode cX2_readPower 8 = .ok (.getfield 15, 3) := by decide +kernel
theorem dX2_readPower_11 : decode cX2_readPower 11 = .ok (.aload_n 0, 1) := by decide +kernel
theorem dX2_readPower_12 : decode cX2_readPower 12 = .ok (.getfield 19, 3) := by decide +kernel
theorem dX2_readPower_15 : decode cX2_readPower 15 = .ok (.invokevirtual 31, 3) := by decide +kernel
theorem dX2_readPower_18 : decode cX2_readPower 18 = .ok (.bipush 97, 2) := by decide +kernel
theorem dX2_readPower_20 : decode cX2_readPower 20 = .ok (.iload_n 1, 1) := by decide +kernel
theorem dX2_readPower_21 : decode cX2_readPower 21 = .ok (.iadd, 1) := by decide +kernel
theorem dX2_readPower_22 : decode cX2_readPower 22 = .ok (.if_icmp .eq 5, 3) := by decide +kernel
theorem dX2_readPower_25 : decode cX2_readPower 25 = .ok (.iconst 1, 1) := by decide +kernel
theorem dX2_readPower_26 : decode cX2_readPower 26 = .ok (.ireturn, 1) := by decide +kernel
theorem dX2_readPower_27 : decode cX2_readPower 27 = .ok (.aload_n 0, 1) := by decide +kernel
theorem dX2_readPower_28 : decode cX2_readPower 28 = .ok (.iconst 1, 1) := by decide +kernel
theorem dX2_readPower_29 : decode cX2_readPower 29 = .ok (.invokevirtual 66, 3) := by decide +kernel
theorem dX2_readPower_32 : decode cX2_readPower 32 = .ok (.ifCond .ne 5, 3) := by decide +kernel
theorem dX2_readPower_35 : decode cX2_readPower 35 = .ok (.iconst 0, 1) := by decide +kernel
theorem dX2_readPower_36 : decode cX2_readPower 36 = .ok (.ireturn, 1) := by decide +kernel
theorem dX2_readPower_37 : decode cX2_readPower 37 = .ok (.aload_n 0, 1) := by decide +kernel
theorem dX2_readPower_38 : decode cX2_readPower 38 = .ok (.dup, 1) := by decide +kernel
theorem dX2_readPower_39 : decode cX2_readPower 39 = .ok (.getfield 19, 3) := by decide +kernel
theorem dX2_readPower_42 : decode cX2_readPower 42 = .ok (.iconst 1, 1) := by decide +kernel
theorem dX2_readPower_43 : decode cX2_readPower 43 = .ok (.iadd, 1) := by decide +kernel
theorem dX2_readPower_44 : decode cX2_readPower 44 = .ok (.putfield 19, 3) := by decide +kernel
theorem dX2_readPower_47 : decode cX2_readPower 47 = .ok (.aload_n 0, 1) := by decide +kernel
theorem dX2_readPower_48 : decode cX2_readPower 48 = .ok (.getfield 9, 3) := by decide +kernel
theorem dX2_readPower_51 : decode cX2_readPower 51 = .ok (.iload_n 1, 1) := by decide +kernel
theorem dX2_readPower_52 : decode cX2_readPower 52 = .ok (.iconst 1, 1) := by decide +kernel
theorem dX2_readPower_53 : decode cX2_readPower 53 = .ok (.iastore, 1) := by decide +kernel
theorem dX2_readPower_54 : decode cX2_readPower 54 = .ok (.aload_n 0, 1) := by decide +kernel
theorem dX2_readPower_55 : decode cX2_readPower 55 = .ok (.getfield 15, 3) := by decide +kernel
theorem dX2_readPower_58 : decode cX2_readPower 58 = .ok (.aload_n 0, 1) := by decide +kernel
theorem dX2_readPower_59 : decode cX2_readPower 59 = .ok (.getfield 19, 3) := by decide +kernel
theorem dX2_readPower_62 : decode cX2_readPower 62 = .ok (.invokevirtual 31, 3) := by decide +kernel
theorem dX2_readPower_65 : decode cX2_readPower 65 = .ok (.bipush 94, 2) := by decide +kernel
theorem dX2_readPower_67 : decode cX2_readPower 67 = .ok (.if_icmp .ne 66, 3) := by decide +kernel
theorem dX2_readPower_70 : decode cX2_readPower 70 = .ok (.aload_n 0, 1) := by decide +kernel
theorem dX2_readPower_71 : decode cX2_readPower 71 = .ok (.dup, 1) := by decide +kernel
theorem dX2_readPower_72 : decode cX2_readPower 72 = .ok (.getfield 19, 3) := by decide +kernel
theorem dX2_readPower_75 : decode cX2_readPower 75 = .ok (.iconst 1, 1) := by decide +kernel
theorem dX2_readPower_76 : decode cX2_readPower 76 = .ok (.iadd, 1) := by decide +kernel
theorem dX2_readPower_77 : decode cX2_readPower 77 = .ok (.putfield 19, 3) := by decide +kernel
theorem dX2_readPower_80 : decode cX2_readPower 80 = .ok (.aload_n 0, 1) := by decide +kernel
theorem dX2_readPower_81 : decode cX2_readPower 81 = .ok (.getfield 15, 3) := by decide +kernel
theorem dX2_readPower_84 : decode cX2_readPower 84 = .ok (.aload_n 0, 1) := by decide +kernel
theorem dX2_readPower_85 : decode cX2_readPower 85 = .ok (.getfield 19, 3) := by decide +kernel
theorem dX2_readPower_88 : decode cX2_readPower 88 = .ok (.invokevirtual 31, 3) := by decide +kernel
theorem dX2_readPower_91 : decode cX2_readPower 91 = .ok (.bipush 48, 2) := by decide +kernel
theorem dX2_readPower_93 : decode cX2_readPower 93 = .ok (.isub, 1) := by decide +kernel
theorem dX2_readPower_94 : decode cX2_readPower 94 = .ok (.istore_n 2, 1) := by decide +kernel
theorem dX2_readPower_95 : decode cX2_readPower 95 = .ok (.iload_n 2, 1) := by decide +kernel
theorem dX2_readPower_96 : decode cX2_readPower 96 = .ok (.iconst 1, 1) := by decide +kernel
theorem dX2_readPower_97 : decode cX2_readPower 97 = .ok (.if_icmp .lt 17, 3) := by decide +kernel
theorem dX2_readPower_100 : decode cX2_readPower 100 = .ok (.iload_n 2, 1) := by decide +kernel
theorem dX2_readPower_101 : decode cX2_readPower 101 = .ok (.bipush 6, 2) := by decide +kernel
theorem dX2_readPower_103 : decode cX2_readPower 103 = .ok (.if_icmp .gt 11, 3) := by decide +kernel
theorem dX2_readPower_106 : decode cX2_readPower 106 = .ok (.aload_n 0, 1) := by decide +kernel
theorem dX2_readPower_107 : decode cX2_readPower 107 = .ok (.iload_n 2, 1) := by decide +kernel
theorem dX2_readPower_108 : decode cX2_readPower 108 = .ok (.invokevirtual 66, 3) := by decide +kernel
theorem dX2_readPower_111 : decode cX2_readPower 111 = .ok (.ifCond .ne 5, 3) := by decide +kernel
theorem dX2_readPower_114 : decode cX2_readPower 114 = .ok (.iconst 0, 1) := by decide +kernel
theorem dX2_readPower_115 : decode cX2_readPower 115 = .ok (.ireturn, 1) := by decide +kernel
theorem dX2_readPower_116 : decode cX2_readPower 116 = .ok (.aload_n 0, 1) := by decide +kernel
theorem dX2_readPower_117 : decode cX2_readPower 117 = .ok (.dup, 1) := by decide +kernel
theorem dX2_readPower_118 : decode cX2_readPower 118 = .ok (.getfield 19, 3) := by decide +kernel
theorem dX2_readPower_121 : decode cX2_readPower 121 = .ok (.iconst 1, 1) := by decide +kernel
theorem dX2_readPower_122 : decode cX2_readPower 122 = .ok (.iadd, 1) := by decide +kernel
theorem dX2_readPower_123 : decode cX2_readPower 123 = .ok (.putfield 19, 3) := by decide +kernel
theorem dX2_readPower_126 : decode cX2_readPower 126 = .ok (.aload_n 0, 1) := by decide +kernel
theorem dX2_readPower_127 : decode cX2_readPower 127 = .ok (.getfield 9, 3) := by decide +kernel
theorem dX2_readPower_130 : decode cX2_readPower 130 = .ok (.iload_n 1, 1) := by decide +kernel
theorem dX2_readPower_131 : decode cX2_readPower 131 = .ok (.iload_n 2, 1) := by decide +kernel
theorem dX2_readPower_132 : decode cX2_readPower 132 = .ok (.iastore, 1) := by decide +kernel
theorem dX2_readPower_133 : decode cX2_readPower 133 = .ok (.aload_n 0, 1) := by decide +kernel
theorem dX2_readPower_134 : decode cX2_readPower 134 = .ok (.dup, 1) := by decide +kernel
theorem dX2_readPower_135 : decode cX2_readPower 135 = .ok (.getfield 51, 3) := by decide +kernel
theorem dX2_readPower_138 : decode cX2_readPower 138 = .ok (.aload_n 0, 1) := by decide +kernel
theorem dX2_readPower_139 : decode cX2_readPower 139 = .ok (.getfield 9, 3) := by decide +kernel
theorem dX2_readPower_142 : decode cX2_readPower 142 = .ok (.iload_n 1, 1) := by decide +kernel
theorem dX2_readPower_143 : decode cX2_readPower 143 = .ok (.iaload, 1) := by decide +kernel
theorem dX2_readPower_144 : decode cX2_readPower 144 = .ok (.iadd, 1) := by decide +kernel
theorem dX2_readPower_145 : decode cX2_readPower 145 = .ok (.putfield 51, 3) := by decide +kernel
theorem dX2_readPower_148 : decode cX2_readPower 148 = .ok (.iconst 1, 1) := by decide +kernel
theorem dX2_readPower_149 : decode cX2_readPower 149 = .ok (.ireturn, 1) := by decide +kernel
theorem dX2_readMember_0 : decode cX2_readMember 0 = .ok (.aload_n 0, 1) := by decide +kernel
theorem dX2_readMember_1 : decode cX2_readMember 1 = .ok (.getfield 19, 3) := by decide +kernel
theorem dX2_readMember_4 : decode cX2_readMember 4 = .ok (.istore_n 3, 1) := by decide +kernel
theorem dX2_readMember_5 : decode cX2_readMember 5 = .ok (.aload_n 0, 1) := by decide +kernel
theorem dX2_readMember_6 : decode cX2_readMember 6 = .ok (.invokevirtual 47, 3) := by decide +kernel
theorem dX2_readMember_9 : decode cX2_readMember 9 = .ok (.istore 4, 2) := by decide +kernel
theorem dX2_readMember_11 : decode cX2_readMember 11 = .ok (.aload_n 0, 1) := by decide +kernel
theorem dX2_readMember_12 : decode cX2_readMember 12 = .ok (.iconst 0, 1) := by decide +kernel
theorem dX2_readMember_13 : decode cX2_readMember 13 = .ok (.putfield 51, 3) := by decide +kernel
theorem dX2_readMember_16 : decode cX2_readMember 16 = .ok (.iconst 0, 1) := by decide +kernel
theorem dX2_readMember_17 : decode cX2_readMember 17 = .ok (.istore 5, 2) := by decide +kernel
theorem dX2_readMember_19 : decode cX2_readMember 19 = .ok (.iload 5, 2) := by decide +kernel
theorem dX2_readMember_21 : decode cX2_readMember 21 = .ok (.iconst 3, 1) := by decide +kernel
theorem dX2_readMember_22 : decode cX2_readMember 22 = .ok (.if_icmp .ge 20, 3) := by decide +kernel
theorem dX2_readMember_25 : decode cX2_readMember 25 = .ok (.aload_n 0, 1) := by decide +kernel
theorem dX2_readMember_26 : decode cX2_readMember 26 = .ok (.iload 5, 2) := by decide +kernel
theorem dX2_readMember_28 : decode cX2_readMember 28 = .ok (.invokevirtual 52, 3) := by decide +kernel
theorem dX2_readMember_31 : decode cX2_readMember 31 = .ok (.ifCond .ne 5, 3) := by decide +kernel
theorem dX2_readMember_34 : decode cX2_readMember 34 = .ok (.iconst 0, 1) := by decide +kernel
theorem dX2_readMember_35 : decode cX2_readMember 35 = .ok (.ireturn, 1) := by decide +kernel
theorem dX2_readMember_36 : decode cX2_readMember 36 = .ok (.iinc 5 1, 3) := by decide +kernel
theorem dX2_readMember_39 : decode cX2_readMember 39 = .ok (.goto (-20), 3) := by decide +kernel
theorem dX2_readMember_42 : decode cX2_readMember 42 = .ok (.aload_n 0, 1) := by decide +kernel
theorem dX2_readMember_43 : decode cX2_readMember 43 = .ok (.getfield 19, 3) := by decide +kernel
theorem dX2_readMember_46 : decode cX2_readMember 46 = .ok (.iload_n 3, 1) := by decide +kernel
theorem dX2_readMember_47 : decode cX2_readMember 47 = .ok (.if_icmp .ne 5, 3) := by decide +kernel
theorem dX2_readMember_50 : decode cX2_readMember 50 = .ok (.iconst 0, 1) := by decide +kernel
theorem dX2_readMember_51 : decode cX2_readMember 51 = .ok (.ireturn, 1) := by decide +kernel
theorem dX2_readMember_52 : decode cX2_readMember 52 = .ok (.aload_n 0, 1) := by decide +kernel
theorem dX2_readMember_53 : decode cX2_readMember 53 = .ok (.getfield 23, 3) := by decide +kernel
theorem dX2_readMember_56 : decode cX2_readMember 56 = .ok (.iconst (-1), 1) := by decide +kernel
theorem dX2_readMember_57 : decode cX2_readMember 57 = .ok (.if_icmp .ne 11, 3) := by decide +kernel
theorem dX2_readMember_60 : decode cX2_readMember 60 = .ok (.aload_n 0, 1) := by decide +kernel
theorem dX2_readMember_61 : decode cX2_readMember 61 = .ok (.aload_n 0, 1) := by decide +kernel
theorem dX2_readMember_62 : decode cX2_readMember 62 = .ok (.getfield 51, 3) := by decide +kernel
theorem dX2_readMember_65 : decode cX2_readMember 65 = .ok (.putfield 23, 3) := by decide +kernel
theorem dX2_readMember_68 : decode cX2_readMember 68 = .ok (.aload_n 0, 1) := by decide +kernel
theorem dX2_readMember_69 : decode cX2_readMember 69 = .ok (.getfield 51, 3) := by decide +kernel
theorem dX2_readMember_72 : decode cX2_readMember 72 = .ok (.aload_n 0, 1) := by decide +kernel
theorem dX2_readMember_73 : decode cX2_readMember 73 = .ok (.getfield 23, 3) := by decide +kernel
theorem dX2_readMember_76 : decode cX2_readMember 76 = .ok (.if_icmp .ge 5, 3) := by decide +kernel
theorem dX2_readMember_79 : decode cX2_readMember 79 = .ok (.iconst 0, 1) := by decide +kernel
theorem dX2_readMember_80 : decode cX2_readMember 80 = .ok (.ireturn, 1) := by decide +kernel
theorem dX2_readMember_81 : decode cX2_readMember 81 = .ok (.aload_n 1, 1) := by decide +kernel
theorem dX2_readMember_82 : decode cX2_readMember 82 = .ok (.getfield 56, 3) := by decide +kernel
theorem dX2_readMember_85 : decode cX2_readMember 85 = .ok (.aload_n 0, 1) := by decide +kernel
theorem dX2_readMember_86 : decode cX2_readMember 86 = .ok (.getfield 9, 3) := by decide +kernel
theorem dX2_readMember_89 : decode cX2_readMember 89 = .ok (.iconst 1, 1) := by decide +kernel
theorem dX2_readMember_90 : decode cX2_readMember 90 = .ok (.iaload, 1) := by decide +kernel
theorem dX2_readMember_91 : decode cX2_readMember 91 = .ok (.aload_n 0, 1) := by decide +kernel
theorem dX2_readMember_92 : decode cX2_readMember 92 = .ok (.getfield 9, 3) := by decide +kernel
theorem dX2_readMember_95 : decode cX2_readMember 95 = .ok (.iconst 2, 1) := by decide +kernel
theorem dX2_readMember_96 : decode cX2_readMember 96 = .ok (.iaload, 1) := by decide +kernel
theorem dX2_readMember_97 : decode cX2_readMember 97 = .ok (.invokestatic 59, 3) := by decide +kernel
theorem dX2_readMember_100 : decode cX2_readMember 100 = .ok (.dup2, 1) := by decide +kernel
theorem dX2_readMember_101 : decode cX2_readMember 101 = .ok (.iaload, 1) := by decide +kernel
theorem dX2_readMember_102 : decode cX2_readMember 102 = .ok (.iload_n 2, 1) := by decide +kernel
theorem dX2_readMember_103 : decode cX2_readMember 103 = .ok (.ifCond .eq 9, 3) := by decide +kernel
theorem dX2_readMember_106 : decode cX2_readMember 106 = .ok (.iload 4, 2) := by decide +kernel
theorem dX2_readMember_108 : decode cX2_readMember 108 = .ok (.ineg, 1) := by decide +kernel
theorem dX2_readMember_109 : decode cX2_readMember 109 = .ok (.goto 5, 3) := by decide +kernel
theorem dX2_readMember_112 : decode cX2_readMember 112 = .ok (.iload 4, 2) := by decide +kernel
theorem dX2_readMember_114 : decode cX2_readMember 114 = .ok (.iadd, 1) := by decide +kernel
theorem dX2_readMember_115 : decode cX2_readMember 115 = .ok (.iastore, 1) := by decide +kernel
theorem dX2_readMember_116 : decode cX2_readMember 116 = .ok (.iconst 1, 1) := by decide +kernel
theorem dX2_readMember_117 : decode cX2_readMember 117 = .ok (.ireturn, 1) := by decide +kernel
theorem dX2_read_0 : decode cX2_read 0 = .ok (.aload_n 0, 1) := by decide +kernel
theorem dX2_read_1 : decode cX2_read 1 = .ok (.aload_n 1, 1) := by decide +kernel
theorem dX2_read_2 : decode cX2_read 2 = .ok (.putfield 15, 3) := by decide +kernel
theorem dX2_read_5 : decode cX2_read 5 = .ok (.aload_n 0, 1) := by decide +kernel
theorem dX2_read_6 : decode cX2_read 6 = .ok (.iconst 0, 1) := by decide +kernel
theorem dX2_read_7 : decode cX2_read 7 = .ok (.putfield 19, 3) := by decide +kernel
theorem dX2_read_10 : decode cX2_read 10 = .ok (.aload_n 0, 1) := by decide +kernel
theorem dX2_read_11 : decode cX2_read 11 = .ok (.iconst (-1), 1) := by decide +kernel
theorem dX2_read_12 : decode cX2_read 12 = .ok (.putfield 23, 3) := by decide +kernel
theorem dX2_read_15 : decode cX2_read 15 = .ok (.aload_n 2, 1) := by decide +kernel
theorem dX2_read_16 : decode cX2_read 16 = .ok (.invokevirtual 26, 3) := by decide +kernel
theorem dX2_read_19 : decode cX2_read 19 = .ok (.aload_n 0, 1) := by decide +kernel
theorem dX2_read_20 : decode cX2_read 20 = .ok (.getfield 15, 3) := by decide +kernel
theorem dX2_read_23 : decode cX2_read 23 = .ok (.iconst 0, 1) := by decide +kernel
theorem dX2_read_24 : decode cX2_read 24 = .ok (.invokevirtual 31, 3) := by decide +kernel
theorem dX2_read_27 : decode cX2_read 27 = .ok (.bipush 45, 2) := by decide +kernel
theorem dX2_read_29 : decode cX2_read 29 = .ok (.if_icmp .ne 7, 3) := by decide +kernel
theorem dX2_read_32 : decode cX2_read 32 = .ok (.iconst 1, 1) := by decide +kernel
theorem dX2_read_33 : decode cX2_read 33 = .ok (.goto 4, 3) := by decide +kernel
theorem dX2_read_36 : decode cX2_read 36 = .ok (.iconst 0, 1) := by decide +kernel
theorem dX2_read_37 : decode cX2_read 37 = .ok (.istore_n 3, 1) := by decide +kernel
theorem dX2_read_38 : decode cX2_read 38 = .ok (.iload_n 3, 1) := by decide +kernel
theorem dX2_read_39 : decode cX2_read 39 = .ok (.ifCond .eq 13, 3) := by decide +kernel
theorem dX2_read_42 : decode cX2_read 42 = .ok (.aload_n 0, 1) := by decide +kernel
theorem dX2_read_43 : decode cX2_read 43 = .ok (.dup, 1) := by decide +kernel
theorem dX2_read_44 : decode cX2_read 44 = .ok (.getfield 19, 3) := by decide +kernel
theorem dX2_read_47 : decode cX2_read 47 = .ok (.iconst 1, 1) := by decide +kernel
theorem dX2_read_48 : decode cX2_read 48 = .ok (.iadd, 1) := by decide +kernel
theorem dX2_read_49 : decode cX2_read 49 = .ok (.putfield 19, 3) := by decide +kernel
theorem dX2_read_52 : decode cX2_read 52 = .ok (.iconst 0, 1) := by decide +kernel
theorem dX2_read_53 : decode cX2_read 53 = .ok (.istore 4, 2) := by decide +kernel
theorem dX2_read_55 : decode cX2_read 55 = .ok (.iload 4, 2) := by decide +kernel
theorem dX2_read_57 : decode cX2_read 57 = .ok (.bipush 72, 2) := by decide +kernel
theorem dX2_read_59 : decode cX2_read 59 = .ok (.if_icmp .ge 95, 3) := by decide +kernel
theorem dX2_read_62 : decode cX2_read 62 = .ok (.aload_n 0, 1) := by decide +kernel
theorem dX2_read_63 : decode cX2_read 63 = .ok (.aload_n 2, 1) := by decide +kernel
theorem dX2_read_64 : decode cX2_read 64 = .ok (.iload_n 3, 1) := by decide +kernel
theorem dX2_read_65 : decode cX2_read 65 = .ok (.invokevirtual 37, 3) := by decide +kernel
theorem dX2_read_68 : decode cX2_read 68 = .ok (.ifCond .ne 8, 3) := by decide +kernel
theorem dX2_read_71 : decode cX2_read 71 = .ok (.aload_n 0, 1) := by decide +kernel
theorem dX2_read_72 : decode cX2_read 72 = .ok (.getfield 19, 3) := by decide +kernel
theorem dX2_read_75 : decode cX2_read 75 = .ok (.ireturn, 1) := by decide +kernel
theorem dX2_read_76 : decode cX2_read 76 = .ok (.aload_n 0, 1) := by decide +kernel
theorem dX2_read_77 : decode cX2_read 77 = .ok (.getfield 19, 3) := by decide +kernel
theorem dX2_read_80 : decode cX2_read 80 = .ok (.aload_n 0, 1) := by decide +kernel
theorem dX2_read_81 : decode cX2_read 81 = .ok (.getfield 15, 3) := by decide +kernel
theorem dX2_read_84 : decode cX2_read 84 = .ok (.getfield 41, 3) := by decide +kernel
theorem dX2_read_87 : decode cX2_read 87 = .ok (.if_icmp .lt 6, 3) := by decide +kernel
theorem dX2_read_90 : decode cX2_read 90 = .ok (.goto 64, 3) := by decide +kernel
theorem dX2_read_93 : decode cX2_read 93 = .ok (.aload_n 0, 1) := by decide +kernel
theorem dX2_read_94 : decode cX2_read 94 = .ok (.getfield 15, 3) := by decide +kernel
theorem dX2_read_97 : decode cX2_read 97 = .ok (.aload_n 0, 1) := by decide +kernel
theorem dX2_read_98 : decode cX2_read 98 = .ok (.getfield 19, 3) := by decide +kernel
theorem dX2_read_101 : decode cX2_read 101 = .ok (.invokevirtual 31, 3) := by decide +kernel
theorem dX2_read_104 : decode cX2_read 104 = .ok (.istore 5, 2) := by decide +kernel
theorem dX2_read_106 : decode cX2_read 106 = .ok (.iload 5, 2) := by decide +kernel
theorem dX2_read_108 : decode cX2_read 108 = .ok (.bipush 43, 2) := by decide +kernel
theorem dX2_read_110 : decode cX2_read 110 = .ok (.if_icmp .eq 15, 3) := by decide +kernel
theorem dX2_read_113 : decode cX2_read 113 = .ok (.iload 5, 2) := by decide +kernel
theorem dX2_read_115 : decode cX2_read 115 = .ok (.bipush 45, 2) := by decide +kernel
theorem dX2_read_117 : decode cX2_read 117 = .ok (.if_icmp .eq 8, 3) := by decide +kernel
theorem dX2_read_120 : decode cX2_read 120 = .ok (.aload_n 0, 1) := by decide +kernel
theorem dX2_read_121 : decode cX2_read 121 = .ok (.getfield 19, 3) := by decide +kernel
theorem dX2_read_124 : decode cX2_read 124 = .ok (.ireturn, 1) := by decide +kernel
theorem dX2_read_125 : decode cX2_read 125 = .ok (.iload 5, 2) := by decide +kernel
theorem dX2_read_127 : decode cX2_read 127 = .ok (.bipush 45, 2) := by decide +kernel
theorem dX2_read_129 : decode cX2_read 129 = .ok (.if_icmp .ne 7, 3) := by decide +kernel
theorem dX2_read_132 : decode cX2_read 132 = .ok (.iconst 1, 1) := by decide +kernel
theorem dX2_read_133 : decode cX2_read 133 = .ok (.goto 4, 3) := by decide +kernel
theorem dX2_read_136 : decode cX2_read 136 = .ok (.iconst 0, 1) := by decide +kernel
theorem dX2_read_137 : decode cX2_read 137 = .ok (.istore_n 3, 1) := by decide +kernel
theorem dX2_read_138 : decode cX2_read 138 = .ok (.aload_n 0, 1) := by decide +kernel
theorem dX2_read_139 : decode cX2_read 139 = .ok (.dup, 1) := by decide +kernel
theorem dX2_read_140 : decode cX2_read 140 = .ok (.getfield 19, 3) := by decide +kernel
theorem dX2_read_143 : decode cX2_read 143 = .ok (.iconst 1, 1) := by decide +kernel
theorem dX2_read_144 : decode cX2_read 144 = .ok (.iadd, 1) := by decide +kernel
theorem dX2_read_145 : decode cX2_read 145 = .ok (.putfield 19, 3) := by decide +kernel
theorem dX2_read_148 : decode cX2_read 148 = .ok (.iinc 4 1, 3) := by decide +kernel
theorem dX2_read_151 : decode cX2_read 151 = .ok (.goto (-96), 3) := by decide +kernel
theorem dX2_read_154 : decode cX2_read 154 = .ok (.aload_n 2, 1) := by decide +kernel
theorem dX2_read_155 : decode cX2_read 155 = .ok (.aload_n 0, 1) := by decide +kernel
theorem dX2_read_156 : decode cX2_read 156 = .ok (.getfield 23, 3) := by decide +kernel
theorem dX2_read_159 : decode cX2_read 159 = .ok (.putfield 44, 3) := by decide +kernel
theorem dX2_read_162 : decode cX2_read 162 = .ok (.iconst (-1), 1) := by decide +kernel
theorem dX2_read_163 : decode cX2_read 163 = .ok (.ireturn, 1) := by decide +kernel
theorem dX3_add_0 : decode cX3_add 0 = .ok (.aload_n 0, 1) := by decide +kernel
theorem dX3_add_1 : decode cX3_add 1 = .ok (.getfield 15, 3) := by decide +kernel
theorem dX3_add_4 : decode cX3_add 4 = .ok (.bipush 72, 2) := by decide +kernel
theorem dX3_add_6 : decode cX3_add 6 = .ok (.if_icmp .lt 4, 3) := by decide +kernel
theorem dX3_add_9 : decode cX3_add 9 = .ok (.return_, 1) := by decide +kernel
theorem dX3_add_10 : decode cX3_add 10 = .ok (.aload_n 0, 1) := by decide +kernel
theorem dX3_add_11 : decode cX3_add 11 = .ok (.getfield 9, 3) := by decide +kernel
theorem dX3_add_14 : decode cX3_add 14 = .ok (.aload_n 0, 1) := by decide +kernel
theorem dX3_add_15 : decode cX3_add 15 = .ok (.getfield 15, 3) := by decide +kernel
theorem dX3_add_18 : decode cX3_add 18 = .ok (.iload_n 1, 1) := by decide +kernel
theorem dX3_add_19 : decode cX3_add 19 = .ok (.iastore, 1) := by decide +kernel
theorem dX3_add_20 : decode cX3_add 20 = .ok (.aload_n 0, 1) := by decide +kernel
theorem dX3_add_21 : decode cX3_add 21 = .ok (.dup, 1) := by decide +kernel
theorem dX3_add_22 : decode cX3_add 22 = .ok (.getfield 15, 3) := by decide +kernel
theorem dX3_add_25 : decode cX3_add 25 = .ok (.iconst 1, 1) := by decide +kernel
theorem dX3_add_26 : decode cX3_add 26 = .ok (.iadd, 1) := by decide +kernel
theorem dX3_add_27 : decode cX3_add 27 = .ok (.putfield 15, 3) := by decide +kernel
theorem dX3_add_30 : decode cX3_add 30 = .ok (.return_, 1) := by decide +kernel
theorem dX4_misses_0 : decode cX4_misses 0 = .ok (.aload_n 0, 1) := by decide +kernel
theorem dX4_misses_1 : decode cX4_misses 1 = .ok (.getfield 16, 3) := by decide +kernel
theorem dX4_misses_4 : decode cX4_misses 4 = .ok (.iload_n 1, 1) := by decide +kernel
theorem dX4_misses_5 : decode cX4_misses 5 = .ok (.iaload, 1) := by decide +kernel
theorem dX4_misses_6 : decode cX4_misses 6 = .ok (.ifCond .ge 7, 3) := by decide +kernel
theorem dX4_misses_9 : decode cX4_misses 9 = .ok (.iconst 1, 1) := by decide +kernel
theorem dX4_misses_10 : decode cX4_misses 10 = .ok (.goto 4, 3) := by decide +kernel
theorem dX4_misses_13 : decode cX4_misses 13 = .ok (.iconst 0, 1) := by decide +kernel
theorem dX4_misses_14 : decode cX4_misses 14 = .ok (.ireturn, 1) := by decide +kernel
theorem dX4_renew_0 : decode cX4_renew 0 = .ok (.aload_n 0, 1) := by decide +kernel
theorem dX4_renew_1 : decode cX4_renew 1 = .ok (.getfield 16, 3) := by decide +kernel
theorem dX4_renew_4 : decode cX4_renew 4 = .ok (.iload_n 1, 1) := by decide +kernel
theorem dX4_renew_5 : decode cX4_renew 5 = .ok (.iload_n 2, 1) := by decide +kernel
theorem dX4_renew_6 : decode cX4_renew 6 = .ok (.iastore, 1) := by decide +kernel
theorem dX4_renew_7 : decode cX4_renew 7 = .ok (.iconst 0, 1) := by decide +kernel
theorem dX4_renew_8 : decode cX4_renew 8 = .ok (.istore_n 3, 1) := by decide +kernel
theorem dX4_renew_9 : decode cX4_renew 9 = .ok (.iload_n 3, 1) := by decide +kernel
theorem dX4_renew_10 : decode cX4_renew 10 = .ok (.iload_n 2, 1) := by decide +kernel
theorem dX4_renew_11 : decode cX4_renew 11 = .ok (.if_icmp .ge 18, 3) := by decide +kernel
theorem dX4_renew_14 : decode cX4_renew 14 = .ok (.aload_n 0, 1) := by decide +kernel
theorem dX4_renew_15 : decode cX4_renew 15 = .ok (.getfield 11, 3) := by decide +kernel
theorem dX4_renew_18 : decode cX4_renew 18 = .ok (.iload_n 1, 1) := by decide +kernel
theorem dX4_renew_19 : decode cX4_renew 19 = .ok (.aaload, 1) := by decide +kernel
theorem dX4_renew_20 : decode cX4_renew 20 = .ok (.iload_n 3, 1) := by decide +kernel
theorem dX4_renew_21 : decode cX4_renew 21 = .ok (.iconst 0, 1) := by decide +kernel
theorem dX4_renew_22 : decode cX4_renew 22 = .ok (.iastore, 1) := by decide +kernel
theorem dX4_renew_23 : decode cX4_renew 23 = .ok (.iinc 3 1, 3) := by decide +kernel
theorem dX4_renew_26 : decode cX4_renew 26 = .ok (.goto (-17), 3) := by decide +kernel
theorem dX4_renew_29 : decode cX4_renew 29 = .ok (.return_, 1) := by decide +kernel
theorem dX4_isPolynomial_0 : decode cX4_isPolynomial 0 = .ok (.aload_n 0, 1) := by decide +kernel
theorem dX4_isPolynomial_1 : decode cX4_isPolynomial 1 = .ok (.getfield 16, 3) := by decide +kernel
theorem dX4_isPolynomial_4 : decode cX4_isPolynomial 4 = .ok (.iload_n 1, 1) := by decide +kernel
theorem dX4_isPolynomial_5 : decode cX4_isPolynomial 5 = .ok (.iaload, 1) := by decide +kernel
theorem dX4_isPolynomial_6 : decode cX4_isPolynomial 6 = .ok (.bipush 9, 2) := by decide +kernel
theorem dX4_isPolynomial_8 : decode cX4_isPolynomial 8 = .ok (.if_icmp .le 5, 3) := by decide +kernel
theorem dX4_isPolynomial_11 : decode cX4_isPolynomial 11 = .ok (.iconst 0, 1) := by decide +kernel
theorem dX4_isPolynomial_12 : decode cX4_isPolynomial 12 = .ok (.ireturn, 1) := by decide +kernel
theorem dX4_isPolynomial_13 : decode cX4_isPolynomial 13 = .ok (.iconst 0, 1) := by decide +kernel
theorem dX4_isPolynomial_14 : decode cX4_isPolynomial 14 = .ok (.istore_n 2, 1) := by decide +kernel
theorem dX4_isPolynomial_15 : decode cX4_isPolynomial 15 = .ok (.iload_n 2, 1) := by decide +kernel
theorem dX4_isPolynomial_16 : decode cX4_isPolynomial 16 = .ok (.aload_n 0, 1) := by decide +kernel
theorem dX4_isPolynomial_17 : decode cX4_isPolynomial 17 = .ok (.getfield 16, 3) := by decide +kernel
theorem dX4_isPolynomial_20 : decode cX4_isPolynomial 20 = .ok (.iload_n 1, 1) := by decide +kernel
theorem dX4_isPolynomial_21 : decode cX4_isPolynomial 21 = .ok (.iaload, 1) := by decide +kernel
theorem dX4_isPolynomial_22 : decode cX4_isPolynomial 22 = .ok (.if_icmp .ge 37, 3) := by decide +kernel
theorem dX4_isPolynomial_25 : decode cX4_isPolynomial 25 = .ok (.aload_n 0, 1) := by decide +kernel
theorem dX4_isPolynomial_26 : decode cX4_isPolynomial 26 = .ok (.getfield 11, 3) := by decide +kernel
theorem dX4_isPolynomial_29 : decode cX4_isPolynomial 29 = .ok (.iload_n 1, 1) := by decide +kernel
theorem dX4_isPolynomial_30 : decode cX4_isPolynomial 30 = .ok (.aaload, 1) := by decide +kernel
theorem dX4_isPolynomial_31 : decode cX4_isPolynomial 31 = .ok (.iload_n 2, 1) := by decide +kernel
theorem dX4_isPolynomial_32 : decode cX4_isPolynomial 32 = .ok (.iaload, 1) := by decide +kernel
theorem dX4_isPolynomial_33 : decode cX4_isPolynomial 33 = .ok (.ldc 20, 2) := by decide +kernel
theorem dX4_isPolynomial_35 : decode cX4_isPolynomial 35 = .ok (.if_icmp .lt 16, 3) := by decide +kernel
theorem dX4_isPolynomial_38 : decode cX4_isPolynomial 38 = .ok (.aload_n 0, 1) := by decide +kernel
theorem dX4_isPolynomial_39 : decode cX4_isPolynomial 39 = .ok (.getfield 11, 3) := by decide +kernel
theorem dX4_isPolynomial_42 : decode cX4_isPolynomial 42 = .ok (.iload_n 1, 1) := by decide +kernel
theorem dX4_isPolynomial_43 : decode cX4_isPolynomial 43 = .ok (.aaload, 1) := by decide +kernel
theorem dX4_isPolynomial_44 : decode cX4_isPolynomial 44 = .ok (.iload_n 2, 1) := by decide +kernel
theorem dX4_isPolynomial_45 : decode cX4_isPolynomial 45 = .ok (.iaload, 1) := by decide +kernel
theorem dX4_isPolynomial_46 : decode cX4_isPolynomial 46 = .ok (.ldc 21, 2) := by decide +kernel
theorem dX4_isPolynomial_48 : decode cX4_isPolynomial 48 = .ok (.if_icmp .le 5, 3) := by decide +kernel
theorem dX4_isPolynomial_51 : decode cX4_isPolynomial 51 = .ok (.iconst 0, 1) := by decide +kernel
theorem dX4_isPolynomial_52 : decode cX4_isPolynomial 52 = .ok (.ireturn, 1) := by decide +kernel
theorem dX4_isPolynomial_53 : decode cX4_isPolynomial 53 = .ok (.iinc 2 1, 3) := by decide +kernel
theorem dX4_isPolynomial_56 : decode cX4_isPolynomial 56 = .ok (.goto (-41), 3) := by decide +kernel
theorem dX4_isPolynomial_59 : decode cX4_isPolynomial 59 = .ok (.iconst 1, 1) := by decide +kernel
theorem dX4_isPolynomial_60 : decode cX4_isPolynomial 60 = .ok (.ireturn, 1) := by decide +kernel
theorem dX4_ways_0 : decode cX4_ways 0 = .ok (.lconst 1, 1) := by decide +kernel
theorem dX4_ways_1 : decode cX4_ways 1 = .ok (.lstore_n 2, 1) := by decide +kernel
theorem dX4_ways_2 : decode cX4_ways 2 = .ok (.iconst 1, 1) := by decide +kernel
theorem dX4_ways_3 : decode cX4_ways 3 = .ok (.istore 4, 2) := by decide +kernel
theorem dX4_ways_5 : decode cX4_ways 5 = .ok (.iload 4, 2) := by decide +kernel
theorem dX4_ways_7 : decode cX4_ways 7 = .ok (.iload_n 1, 1) := by decide +kernel
theorem dX4_ways_8 : decode cX4_ways 8 = .ok (.if_icmp .gt 23, 3) := by decide +kernel
theorem dX4_ways_11 : decode cX4_ways 11 = .ok (.lload_n 2, 1) := by decide +kernel
theorem dX4_ways_12 : decode cX4_ways 12 = .ok (.iload_n 0, 1) := by decide +kernel
theorem dX4_ways_13 : decode cX4_ways 13 = .ok (.iload_n 1, 1) := by decide +kernel
theorem dX4_ways_14 : decode cX4_ways 14 = .ok (.isub, 1) := by decide +kernel
theorem dX4_ways_15 : decode cX4_ways 15 = .ok (.iload 4, 2) := by decide +kernel
theorem dX4_ways_17 : decode cX4_ways 17 = .ok (.iadd, 1) := by decide +kernel
theorem dX4_ways_18 : decode cX4_ways 18 = .ok (.i2l, 1) := by decide +kernel
theorem dX4_ways_19 : decode cX4_ways 19 = .ok (.lmul, 1) := by decide +kernel
theorem dX4_ways_20 : decode cX4_ways 20 = .ok (.iload 4, 2) := by decide +kernel
theorem dX4_ways_22 : decode cX4_ways 22 = .ok (.i2l, 1) := by decide +kernel
theorem dX4_ways_23 : decode cX4_ways 23 = .ok (.ldiv, 1) := by decide +kernel
theorem dX4_ways_24 : decode cX4_ways 24 = .ok (.lstore_n 2, 1) := by decide +kernel
theorem dX4_ways_25 : decode cX4_ways 25 = .ok (.iinc 4 1, 3) := by decide +kernel
theorem dX4_ways_28 : decode cX4_ways 28 = .ok (.goto (-23), 3) := by decide +kernel
theorem dX4_ways_31 : decode cX4_ways 31 = .ok (.lload_n 2, 1) := by decide +kernel
theorem dX4_ways_32 : decode cX4_ways 32 = .ok (.lreturn, 1) := by decide +kernel
theorem dX4_wall_0 : decode cX4_wall 0 = .ok (.lconst 0, 1) := by decide +kernel
theorem dX4_wall_1 : decode cX4_wall 1 = .ok (.lstore 4, 2) := by decide +kernel
theorem dX4_wall_3 : decode cX4_wall 3 = .ok (.iconst 0, 1) := by decide +kernel
theorem dX4_wall_4 : decode cX4_wall 4 = .ok (.istore 6, 2) := by decide +kernel
theorem dX4_wall_6 : decode cX4_wall 6 = .ok (.iload 6, 2) := by decide +kernel
theorem dX4_wall_8 : decode cX4_wall 8 = .ok (.aload_n 0, 1) := by decide +kernel
theorem dX4_wall_9 : decode cX4_wall 9 = .ok (.getfield 16, 3) := by decide +kernel
theorem dX4_wall_12 : decode cX4_wall 12 = .ok (.iload_n 1, 1) := by decide +kernel
theorem dX4_wall_13 : decode cX4_wall 13 = .ok (.iaload, 1) := by decide +kernel
theorem dX4_wall_14 : decode cX4_wall 14 = .ok (.if_icmp .ge 42, 3) := by decide +kernel
theorem dX4_wall_17 : decode cX4_wall 17 = .ok (.iload 6, 2) := by decide +kernel
theorem dX4_wall_19 : decode cX4_wall 19 = .ok (.iload_n 3, 1) := by decide +kernel
theorem dX4_wall_20 : decode cX4_wall 20 = .ok (.if_icmp .gt 36, 3) := by decide +kernel
theorem dX4_wall_23 : decode cX4_wall 23 = .ok (.lload 4, 2) := by decide +kernel
theorem dX4_wall_25 : decode cX4_wall 25 = .ok (.aload_n 0, 1) := by decide +kernel
theorem dX4_wall_26 : decode cX4_wall 26 = .ok (.getfield 11, 3) := by decide +kernel
theorem dX4_wall_29 : decode cX4_wall 29 = .ok (.iload_n 1, 1) := by decide +kernel
theorem dX4_wall_30 : decode cX4_wall 30 = .ok (.aaload, 1) := by decide +kernel
theorem dX4_wall_31 : decode cX4_wall 31 = .ok (.iload 6, 2) := by decide +kernel
theorem dX4_wall_33 : decode cX4_wall 33 = .ok (.iaload, 1) := by decide +kernel
theorem dX4_wall_34 : decode cX4_wall 34 = .ok (.i2l, 1) := by decide +kernel
theorem dX4_wall_35 : decode cX4_wall 35 = .ok (.iload_n 2, 1) := by decide +kernel
theorem dX4_wall_36 : decode cX4_wall 36 = .ok (.iload 6, 2) := by decide +kernel
theorem dX4_wall_38 : decode cX4_wall 38 = .ok (.isub, 1) := by decide +kernel
theorem dX4_wall_39 : decode cX4_wall 39 = .ok (.iload_n 3, 1) := by decide +kernel
theorem dX4_wall_40 : decode cX4_wall 40 = .ok (.iload 6, 2) := by decide +kernel
theorem dX4_wall_42 : decode cX4_wall 42 = .ok (.isub, 1) := by decide +kernel
theorem dX4_wall_43 : decode cX4_wall 43 = .ok (.invokestatic 22, 3) := by decide +kernel
theorem dX4_wall_46 : decode cX4_wall 46 = .ok (.lmul, 1) := by decide +kernel
theorem dX4_wall_47 : decode cX4_wall 47 = .ok (.ladd, 1) := by decide +kernel
theorem dX4_wall_48 : decode cX4_wall 48 = .ok (.lstore 4, 2) := by decide +kernel
theorem dX4_wall_50 : decode cX4_wall 50 = .ok (.iinc 6 1, 3) := by decide +kernel
theorem dX4_wall_53 : decode cX4_wall 53 = .ok (.goto (-47), 3) := by decide +kernel
theorem dX4_wall_56 : decode cX4_wall 56 = .ok (.lload 4, 2) := by decide +kernel
theorem dX4_wall_58 : decode cX4_wall 58 = .ok (.lreturn, 1) := by decide +kernel
theorem dX10_fails_0 : decode cX10_fails 0 = .ok (.iload_n 2, 1) := by decide +kernel
theorem dX10_fails_1 : decode cX10_fails 1 = .ok (.ifCond .ne 17, 3) := by decide +kernel
theorem dX10_fails_4 : decode cX10_fails 4 = .ok (.lload_n 0, 1) := by decide +kernel
theorem dX10_fails_5 : decode cX10_fails 5 = .ok (.lconst 0, 1) := by decide +kernel
theorem dX10_fails_6 : decode cX10_fails 6 = .ok (.lcmp, 1) := by decide +kernel
theorem dX10_fails_7 : decode cX10_fails 7 = .ok (.ifCond .ge 7, 3) := by decide +kernel
theorem dX10_fails_10 : decode cX10_fails 10 = .ok (.iconst 1, 1) := by decide +kernel
theorem dX10_fails_11 : decode cX10_fails 11 = .ok (.goto 18, 3) := by decide +kernel
theorem dX10_fails_14 : decode cX10_fails 14 = .ok (.iconst 0, 1) := by decide +kernel
theorem dX10_fails_15 : decode cX10_fails 15 = .ok (.goto 14, 3) := by decide +kernel
theorem dX10_fails_18 : decode cX10_fails 18 = .ok (.lload_n 0, 1) := by decide +kernel
theorem dX10_fails_19 : decode cX10_fails 19 = .ok (.lconst 0, 1) := by decide +kernel
theorem dX10_fails_20 : decode cX10_fails 20 = .ok (.lcmp, 1) := by decide +kernel
theorem dX10_fails_21 : decode cX10_fails 21 = .ok (.ifCond .gt 7, 3) := by decide +kernel
theorem dX10_fails_24 : decode cX10_fails 24 = .ok (.iconst 1, 1) := by decide +kernel
theorem dX10_fails_25 : decode cX10_fails 25 = .ok (.goto 4, 3) := by decide +kernel
theorem dX10_fails_28 : decode cX10_fails 28 = .ok (.iconst 0, 1) := by decide +kernel
theorem dX10_fails_29 : decode cX10_fails 29 = .ok (.ireturn, 1) := by decide +kernel
theorem dX4_wallsClear_0 : decode cX4_wallsClear 0 = .ok (.iconst 0, 1) := by decide +kernel
theorem dX4_wallsClear_1 : decode cX4_wallsClear 1 = .ok (.istore 4, 2) := by decide +kernel
theorem dX4_wallsClear_3 : decode cX4_wallsClear 3 = .ok (.iload 4, 2) := by decide +kernel
theorem dX4_wallsClear_5 : decode cX4_wallsClear 5 = .ok (.iload_n 2, 1) := by decide +kernel
theorem dX4_wallsClear_6 : decode cX4_wallsClear 6 = .ok (.if_icmp .gt 26, 3) := by decide +kernel
theorem dX4_wallsClear_9 : decode cX4_wallsClear 9 = .ok (.aload_n 0, 1) := by decide +kernel
theorem dX4_wallsClear_10 : decode cX4_wallsClear 10 = .ok (.iload_n 1, 1) := by decide +kernel
theorem dX4_wallsClear_11 : decode cX4_wallsClear 11 = .ok (.iload_n 2, 1) := by decide +kernel
theorem dX4_wallsClear_12 : decode cX4_wallsClear 12 = .ok (.iload 4, 2) := by decide +kernel
theorem dX4_wallsClear_14 : decode cX4_wallsClear 14 = .ok (.invokevirtual 26, 3) := by decide +kernel
theorem dX4_wallsClear_17 : decode cX4_wallsClear 17 = .ok (.iload_n 3, 1) := by decide +kernel
theorem dX4_wallsClear_18 : decode cX4_wallsClear 18 = .ok (.invokestatic 30, 3) := by decide +kernel
theorem dX4_wallsClear_21 : decode cX4_wallsClear 21 = .ok (.ifCond .eq 5, 3) := by decide +kernel
theorem dX4_wallsClear_24 : decode cX4_wallsClear 24 = .ok (.iconst 0, 1) := by decide +kernel
theorem dX4_wallsClear_25 : decode cX4_wallsClear 25 = .ok (.ireturn, 1) := by decide +kernel
theorem dX4_wallsClear_26 : decode cX4_wallsClear 26 = .ok (.iinc 4 1, 3) := by decide +kernel
theorem dX4_wallsClear_29 : decode cX4_wallsClear 29 = .ok (.goto (-26), 3) := by decide +kernel
theorem dX4_wallsClear_32 : decode cX4_wallsClear 32 = .ok (.iconst 1, 1) := by decide +kernel
theorem dX4_wallsClear_33 : decode cX4_wallsClear 33 = .ok (.ireturn, 1) := by decide +kernel
theorem dX5_fill_0 : decode cX5_fill 0 = .ok (.iconst 0, 1) := by decide +kernel
theorem dX5_fill_1 : decode cX5_fill 1 = .ok (.istore_n 3, 1) := by decide +kernel
theorem dX5_fill_2 : decode cX5_fill 2 = .ok (.iload_n 3, 1) := by decide +kernel
theorem dX5_fill_3 : decode cX5_fill 3 = .ok (.aload_n 0, 1) := by decide +kernel
theorem dX5_fill_4 : decode cX5_fill 4 = .ok (.getfield 36, 3) := by decide +kernel
theorem dX5_fill_7 : decode cX5_fill 7 = .ok (.if_icmp .ge 23, 3) := by decide +kernel
theorem dX5_fill_10 : decode cX5_fill 10 = .ok (.aload_n 0, 1) := by decide +kernel
theorem dX5_fill_11 : decode cX5_fill 11 = .ok (.getfield 11, 3) := by decide +kernel
theorem dX5_fill_14 : decode cX5_fill 14 = .ok (.iload_n 3, 1) := by decide +kernel
theorem dX5_fill_15 : decode cX5_fill 15 = .ok (.aaload, 1) := by decide +kernel
theorem dX5_fill_16 : decode cX5_fill 16 = .ok (.iload_n 1, 1) := by decide +kernel
theorem dX5_fill_17 : decode cX5_fill 17 = .ok (.aload_n 2, 1) := by decide +kernel
theorem dX5_fill_18 : decode cX5_fill 18 = .ok (.iload_n 3, 1) := by decide +kernel
theorem dX5_fill_19 : decode cX5_fill 19 = .ok (.invokevirtual 56, 3) := by decide +kernel
theorem dX5_fill_22 : decode cX5_fill 22 = .ok (.i2l, 1) := by decide +kernel
theorem dX5_fill_23 : decode cX5_fill 23 = .ok (.lastore, 1) := by decide +kernel
theorem dX5_fill_24 : decode cX5_fill 24 = .ok (.iinc 3 1, 3) := by decide +kernel
theorem dX5_fill_27 : decode cX5_fill 27 = .ok (.goto (-25), 3) := by decide +kernel
theorem dX5_fill_30 : decode cX5_fill 30 = .ok (.return_, 1) := by decide +kernel
theorem dX5_leader_0 : decode cX5_leader 0 = .ok (.iload_n 1, 1) := by decide +kernel
theorem dX5_leader_1 : decode cX5_leader 1 = .ok (.istore_n 3, 1) := by decide +kernel
theorem dX5_leader_2 : decode cX5_leader 2 = .ok (.iload_n 3, 1) := by decide +kernel
theorem dX5_leader_3 : decode cX5_leader 3 = .ok (.aload_n 0, 1) := by decide +kernel
theorem dX5_leader_4 : decode cX5_leader 4 = .ok (.getfield 36, 3) := by decide +kernel
theorem dX5_leader_7 : decode cX5_leader 7 = .ok (.if_icmp .ge 24, 3) := by decide +kernel
theorem dX5_leader_10 : decode cX5_leader 10 = .ok (.aload_n 0, 1) := by decide +kernel
theorem dX5_leader_11 : decode cX5_leader 11 = .ok (.getfield 11, 3) := by decide +kernel
theorem dX5_leader_14 : decode cX5_leader 14 = .ok (.iload_n 3, 1) := by decide +kernel
theorem dX5_leader_15 : decode cX5_leader 15 = .ok (.aaload, 1) := by decide +kernel
theorem dX5_leader_16 : decode cX5_leader 16 = .ok (.iload_n 2, 1) := by decide +kernel
theorem dX5_leader_17 : decode cX5_leader 17 = .ok (.laload, 1) := by decide +kernel
theorem dX5_leader_18 : decode cX5_leader 18 = .ok (.lconst 0, 1) := by decide +kernel
theorem dX5_leader_19 : decode cX5_leader 19 = .ok (.lcmp, 1) := by decide +kernel
theorem dX5_leader_20 : decode cX5_leader 20 = .ok (.ifCond .eq 5, 3) := by decide +kernel
theorem dX5_leader_23 : decode cX5_leader 23 = .ok (.iload_n 3, 1) := by decide +kernel
theorem dX5_leader_24 : decode cX5_leader 24 = .ok (.ireturn, 1) := by decide +kernel
theorem dX5_leader_25 : decode cX5_leader 25 = .ok (.iinc 3 1, 3) := by decide +kernel
theorem dX5_leader_28 : decode cX5_leader 28 = .ok (.goto (-26), 3) := by decide +kernel
theorem dX5_leader_31 : decode cX5_leader 31 = .ok (.iconst (-1), 1) := by decide +kernel
theorem dX5_leader_32 : decode cX5_leader 32 = .ok (.ireturn, 1) := by decide +kernel
theorem dX5_takeAway_0 : decode cX5_takeAway 0 = .ok (.aload_n 0, 1) := by decide +kernel
theorem dX5_takeAway_1 : decode cX5_takeAway 1 = .ok (.getfield 11, 3) := by decide +kernel
theorem dX5_takeAway_4 : decode cX5_takeAway 4 = .ok (.iload_n 1, 1) := by decide +kernel
theorem dX5_takeAway_5 : decode cX5_takeAway 5 = .ok (.aaload, 1) := by decide +kernel
theorem dX5_takeAway_6 : decode cX5_takeAway 6 = .ok (.iload_n 3, 1) := by decide +kernel
theorem dX5_takeAway_7 : decode cX5_takeAway 7 = .ok (.laload, 1) := by decide +kernel
theorem dX5_takeAway_8 : decode cX5_takeAway 8 = .ok (.lstore 4, 2) := by decide +kernel
theorem dX5_takeAway_10 : decode cX5_takeAway 10 = .ok (.aload_n 0, 1) := by decide +kernel
theorem dX5_takeAway_11 : decode cX5_takeAway 11 = .ok (.getfield 11, 3) := by decide +kernel
theorem dX5_takeAway_14 : decode cX5_takeAway 14 = .ok (.iload_n 2, 1) := by decide +kernel
theorem dX5_takeAway_15 : decode cX5_takeAway 15 = .ok (.aaload, 1) := by decide +kernel
theorem dX5_takeAway_16 : decode cX5_takeAway 16 = .ok (.iload_n 3, 1) := by decide +kernel
theorem dX5_takeAway_17 : decode cX5_takeAway 17 = .ok (.laload, 1) := by decide +kernel
theorem dX5_takeAway_18 : decode cX5_takeAway 18 = .ok (.lstore 6, 2) := by decide +kernel
theorem dX5_takeAway_20 : decode cX5_takeAway 20 = .ok (.iconst 0, 1) := by decide +kernel
theorem dX5_takeAway_21 : decode cX5_takeAway 21 = .ok (.istore 8, 2) := by decide +kernel
theorem dX5_takeAway_23 : decode cX5_takeAway 23 = .ok (.iload 8, 2) := by decide +kernel
theorem dX5_takeAway_25 : decode cX5_takeAway 25 = .ok (.aload_n 0, 1) := by decide +kernel
theorem dX5_takeAway_26 : decode cX5_takeAway 26 = .ok (.getfield 39, 3) := by decide +kernel
theorem dX5_takeAway_29 : decode cX5_takeAway 29 = .ok (.if_icmp .gt 43, 3) := by decide +kernel
theorem dX5_takeAway_32 : decode cX5_takeAway 32 = .ok (.aload_n 0, 1) := by decide +kernel
theorem dX5_takeAway_33 : decode cX5_takeAway 33 = .ok (.getfield 11, 3) := by decide +kernel
theorem dX5_takeAway_36 : decode cX5_takeAway 36 = .ok (.iload_n 1, 1) := by decide +kernel
theorem dX5_takeAway_37 : decode cX5_takeAway 37 = .ok (.aaload, 1) := by decide +kernel
theorem dX5_takeAway_38 : decode cX5_takeAway 38 = .ok (.iload 8, 2) := by decide +kernel
theorem dX5_takeAway_40 : decode cX5_takeAway 40 = .ok (.aload_n 0, 1) := by decide +kernel
theorem dX5_takeAway_41 : decode cX5_takeAway 41 = .ok (.getfield 11, 3) := by decide +kernel
theorem dX5_takeAway_44 : decode cX5_takeAway 44 = .ok (.iload_n 1, 1) := by decide +kernel
theorem dX5_takeAway_45 : decode cX5_takeAway 45 = .ok (.aaload, 1) := by decide +kernel
theorem dX5_takeAway_46 : decode cX5_takeAway 46 = .ok (.iload 8, 2) := by decide +kernel
theorem dX5_takeAway_48 : decode cX5_takeAway 48 = .ok (.laload, 1) := by decide +kernel
theorem dX5_takeAway_49 : decode cX5_takeAway 49 = .ok (.lload 6, 2) := by decide +kernel
theorem dX5_takeAway_51 : decode cX5_takeAway 51 = .ok (.lmul, 1) := by decide +kernel
theorem dX5_takeAway_52 : decode cX5_takeAway 52 = .ok (.aload_n 0, 1) := by decide +kernel
theorem dX5_takeAway_53 : decode cX5_takeAway 53 = .ok (.getfield 11, 3) := by decide +kernel
theorem dX5_takeAway_56 : decode cX5_takeAway 56 = .ok (.iload_n 2, 1) := by decide +kernel
theorem dX5_takeAway_57 : decode cX5_takeAway 57 = .ok (.aaload, 1) := by decide +kernel
theorem dX5_takeAway_58 : decode cX5_takeAway 58 = .ok (.iload 8, 2) := by decide +kernel
theorem dX5_takeAway_60 : decode cX5_takeAway 60 = .ok (.laload, 1) := by decide +kernel
theorem dX5_takeAway_61 : decode cX5_takeAway 61 = .ok (.lload 4, 2) := by decide +kernel
theorem dX5_takeAway_63 : decode cX5_takeAway 63 = .ok (.lmul, 1) := by decide +kernel
theorem dX5_takeAway_64 : decode cX5_takeAway 64 = .ok (.lsub, 1) := by decide +kernel
theorem dX5_takeAway_65 : decode cX5_takeAway 65 = .ok (.lastore, 1) := by decide +kernel
theorem dX5_takeAway_66 : decode cX5_takeAway 66 = .ok (.iinc 8 1, 3) := by decide +kernel
theorem dX5_takeAway_69 : decode cX5_takeAway 69 = .ok (.goto (-46), 3) := by decide +kernel
theorem dX5_takeAway_72 : decode cX5_takeAway 72 = .ok (.return_, 1) := by decide +kernel
theorem dX5_lead_0 : decode cX5_lead 0 = .ok (.aload_n 0, 1) := by decide +kernel
theorem dX5_lead_1 : decode cX5_lead 1 = .ok (.iload_n 1, 1) := by decide +kernel
theorem dX5_lead_2 : decode cX5_lead 2 = .ok (.iload_n 2, 1) := by decide +kernel
theorem dX5_lead_3 : decode cX5_lead 3 = .ok (.invokevirtual 53, 3) := by decide +kernel
theorem dX5_lead_6 : decode cX5_lead 6 = .ok (.istore_n 3, 1) := by decide +kernel
theorem dX5_lead_7 : decode cX5_lead 7 = .ok (.iload_n 3, 1) := by decide +kernel
theorem dX5_lead_8 : decode cX5_lead 8 = .ok (.iconst (-1), 1) := by decide +kernel
theorem dX5_lead_9 : decode cX5_lead 9 = .ok (.if_icmp .ne 5, 3) := by decide +kernel
theorem dX5_lead_12 : decode cX5_lead 12 = .ok (.iconst (-1), 1) := by decide +kernel
theorem dX5_lead_13 : decode cX5_lead 13 = .ok (.ireturn, 1) := by decide +kernel
theorem dX5_lead_14 : decode cX5_lead 14 = .ok (.aload_n 0, 1) := by decide +kernel
theorem dX5_lead_15 : decode cX5_lead 15 = .ok (.getfield 11, 3) := by decide +kernel
theorem dX5_lead_18 : decode cX5_lead 18 = .ok (.iload_n 3, 1) := by decide +kernel
theorem dX5_lead_19 : decode cX5_lead 19 = .ok (.aaload, 1) := by decide +kernel
theorem dX5_lead_20 : decode cX5_lead 20 = .ok (.astore 4, 2) := by decide +kernel
theorem dX5_lead_22 : decode cX5_lead 22 = .ok (.aload_n 0, 1) := by decide +kernel
theorem dX5_lead_23 : decode cX5_lead 23 = .ok (.getfield 11, 3) := by decide +kernel
theorem dX5_lead_26 : decode cX5_lead 26 = .ok (.iload_n 3, 1) := by decide +kernel
theorem dX5_lead_27 : decode cX5_lead 27 = .ok (.aload_n 0, 1) := by decide +kernel
theorem dX5_lead_28 : decode cX5_lead 28 = .ok (.getfield 11, 3) := by decide +kernel
theorem dX5_lead_31 : decode cX5_lead 31 = .ok (.iload_n 1, 1) := by decide +kernel
theorem dX5_lead_32 : decode cX5_lead 32 = .ok (.aaload, 1) := by decide +kernel
theorem dX5_lead_33 : decode cX5_lead 33 = .ok (.aastore, 1) := by decide +kernel
theorem dX5_lead_34 : decode cX5_lead 34 = .ok (.aload_n 0, 1) := by decide +kernel
theorem dX5_lead_35 : decode cX5_lead 35 = .ok (.getfield 11, 3) := by decide +kernel
theorem dX5_lead_38 : decode cX5_lead 38 = .ok (.iload_n 1, 1) := by decide +kernel
theorem dX5_lead_39 : decode cX5_lead 39 = .ok (.aload 4, 2) := by decide +kernel
theorem dX5_lead_41 : decode cX5_lead 41 = .ok (.aastore, 1) := by decide +kernel
theorem dX5_lead_42 : decode cX5_lead 42 = .ok (.iconst 0, 1) := by decide +kernel
theorem dX5_lead_43 : decode cX5_lead 43 = .ok (.istore 5, 2) := by decide +kernel
theorem dX5_lead_45 : decode cX5_lead 45 = .ok (.iload 5, 2) := by decide +kernel
theorem dX5_lead_47 : decode cX5_lead 47 = .ok (.aload_n 0, 1) := by decide +kernel
theorem dX5_lead_48 : decode cX5_lead 48 = .ok (.getfield 36, 3) := by decide +kernel
theorem dX5_lead_51 : decode cX5_lead 51 = .ok (.if_icmp .ge 37, 3) := by decide +kernel
theorem dX5_lead_54 : decode cX5_lead 54 = .ok (.iload 5, 2) := by decide +kernel
theorem dX5_lead_56 : decode cX5_lead 56 = .ok (.iload_n 1, 1) := by decide +kernel
theorem dX5_lead_57 : decode cX5_lead 57 = .ok (.if_icmp .eq 25, 3) := by decide +kernel
theorem dX5_lead_60 : decode cX5_lead 60 = .ok (.aload_n 0, 1) := by decide +kernel
theorem dX5_lead_61 : decode cX5_lead 61 = .ok (.getfield 11, 3) := by decide +kernel
theorem dX5_lead_64 : decode cX5_lead 64 = .ok (.iload 5, 2) := by decide +kernel
theorem dX5_lead_66 : decode cX5_lead 66 = .ok (.aaload, 1) := by decide +kernel
theorem dX5_lead_67 : decode cX5_lead 67 = .ok (.iload_n 2, 1) := by decide +kernel
theorem dX5_lead_68 : decode cX5_lead 68 = .ok (.laload, 1) := by decide +kernel
theorem dX5_lead_69 : decode cX5_lead 69 = .ok (.lconst 0, 1) := by decide +kernel
theorem dX5_lead_70 : decode cX5_lead 70 = .ok (.lcmp, 1) := by decide +kernel
theorem dX5_lead_71 : decode cX5_lead 71 = .ok (.ifCond .eq 11, 3) := by decide +kernel
theorem dX5_lead_74 : decode cX5_lead 74 = .ok (.aload_n 0, 1) := by decide +kernel
theorem dX5_lead_75 : decode cX5_lead 75 = .ok (.iload 5, 2) := by decide +kernel
theorem dX5_lead_77 : decode cX5_lead 77 = .ok (.iload_n 1, 1) := by decide +kernel
theorem dX5_lead_78 : decode cX5_lead 78 = .ok (.iload_n 2, 1) := by decide +kernel
theorem dX5_lead_79 : decode cX5_lead 79 = .ok (.invokevirtual 59, 3) := by decide +kernel
theorem dX5_lead_82 : decode cX5_lead 82 = .ok (.iinc 5 1, 3) := by decide +kernel
theorem dX5_lead_85 : decode cX5_lead 85 = .ok (.goto (-40), 3) := by decide +kernel
theorem dX5_lead_88 : decode cX5_lead 88 = .ok (.iload_n 1, 1) := by decide +kernel
theorem dX5_lead_89 : decode cX5_lead 89 = .ok (.ireturn, 1) := by decide +kernel
theorem dX5_makes_0 : decode cX5_makes 0 = .ok (.aload_n 0, 1) := by decide +kernel
theorem dX5_makes_1 : decode cX5_makes 1 = .ok (.aload_n 1, 1) := by decide +kernel
theorem dX5_makes_2 : decode cX5_makes 2 = .ok (.getfield 20, 3) := by decide +kernel
theorem dX5_makes_5 : decode cX5_makes 5 = .ok (.iload_n 2, 1) := by decide +kernel
theorem dX5_makes_6 : decode cX5_makes 6 = .ok (.aaload, 1) := by decide +kernel
theorem dX5_makes_7 : decode cX5_makes 7 = .ok (.getfield 26, 3) := by decide +kernel
theorem dX5_makes_10 : decode cX5_makes 10 = .ok (.invokestatic 32, 3) := by decide +kernel
theorem dX5_makes_13 : decode cX5_makes 13 = .ok (.putfield 36, 3) := by decide +kernel
theorem dX5_makes_16 : decode cX5_makes 16 = .ok (.aload_n 0, 1) := by decide +kernel
theorem dX5_makes_17 : decode cX5_makes 17 = .ok (.iconst 0, 1) := by decide +kernel
theorem dX5_makes_18 : decode cX5_makes 18 = .ok (.putfield 39, 3) := by decide +kernel
theorem dX5_makes_21 : decode cX5_makes 21 = .ok (.iconst 0, 1) := by decide +kernel
theorem dX5_makes_22 : decode cX5_makes 22 = .ok (.istore 4, 2) := by decide +kernel
theorem dX5_makes_24 : decode cX5_makes 24 = .ok (.iload 4, 2) := by decide +kernel
theorem dX5_makes_26 : decode cX5_makes 26 = .ok (.aload_n 1, 1) := by decide +kernel
theorem dX5_makes_27 : decode cX5_makes 27 = .ok (.getfield 42, 3) := by decide +kernel
theorem dX5_makes_30 : decode cX5_makes 30 = .ok (.if_icmp .ge 54, 3) := by decide +kernel
theorem dX5_makes_33 : decode cX5_makes 33 = .ok (.iload_n 3, 1) := by decide +kernel
theorem dX5_makes_34 : decode cX5_makes 34 = .ok (.iload 4, 2) := by decide +kernel
theorem dX5_makes_36 : decode cX5_makes 36 = .ok (.ishr, 1) := by decide +kernel
theorem dX5_makes_37 : decode cX5_makes 37 = .ok (.iconst 1, 1) := by decide +kernel
theorem dX5_makes_38 : decode cX5_makes 38 = .ok (.iand, 1) := by decide +kernel
theorem dX5_makes_39 : decode cX5_makes 39 = .ok (.ifCond .eq 39, 3) := by decide +kernel
theorem dX5_makes_42 : decode cX5_makes 42 = .ok (.aload_n 0, 1) := by decide +kernel
theorem dX5_makes_43 : decode cX5_makes 43 = .ok (.getfield 39, 3) := by decide +kernel
theorem dX5_makes_46 : decode cX5_makes 46 = .ok (.iconst 3, 1) := by decide +kernel
theorem dX5_makes_47 : decode cX5_makes 47 = .ok (.if_icmp .lt 6, 3) := by decide +kernel
theorem dX5_makes_50 : decode cX5_makes 50 = .ok (.goto 28, 3) := by decide +kernel
theorem dX5_makes_53 : decode cX5_makes 53 = .ok (.aload_n 0, 1) := by decide +kernel
theorem dX5_makes_54 : decode cX5_makes 54 = .ok (.aload_n 0, 1) := by decide +kernel
theorem dX5_makes_55 : decode cX5_makes 55 = .ok (.getfield 39, 3) := by decide +kernel
theorem dX5_makes_58 : decode cX5_makes 58 = .ok (.aload_n 1, 1) := by decide +kernel
theorem dX5_makes_59 : decode cX5_makes 59 = .ok (.getfield 20, 3) := by decide +kernel
theorem dX5_makes_62 : decode cX5_makes 62 = .ok (.iload 4, 2) := by decide +kernel
theorem dX5_makes_64 : decode cX5_makes 64 = .ok (.aaload, 1) := by decide +kernel
theorem dX5_makes_65 : decode cX5_makes 65 = .ok (.invokevirtual 45, 3) := by decide +kernel
theorem dX5_makes_68 : decode cX5_makes 68 = .ok (.aload_n 0, 1) := by decide +kernel
theorem dX5_makes_69 : decode cX5_makes 69 = .ok (.dup, 1) := by decide +kernel
theorem dX5_makes_70 : decode cX5_makes 70 = .ok (.getfield 39, 3) := by decide +kernel
theorem dX5_makes_73 : decode cX5_makes 73 = .ok (.iconst 1, 1) := by decide +kernel
theorem dX5_makes_74 : decode cX5_makes 74 = .ok (.iadd, 1) := by decide +kernel
theorem dX5_makes_75 : decode cX5_makes 75 = .ok (.putfield 39, 3) := by decide +kernel
theorem dX5_makes_78 : decode cX5_makes 78 = .ok (.iinc 4 1, 3) := by decide +kernel
theorem dX5_makes_81 : decode cX5_makes 81 = .ok (.goto (-57), 3) := by decide +kernel
theorem dX5_makes_84 : decode cX5_makes 84 = .ok (.aload_n 0, 1) := by decide +kernel
theorem dX5_makes_85 : decode cX5_makes 85 = .ok (.aload_n 0, 1) := by decide +kernel
theorem dX5_makes_86 : decode cX5_makes 86 = .ok (.getfield 39, 3) := by decide +kernel
theorem dX5_makes_89 : decode cX5_makes 89 = .ok (.aload_n 1, 1) := by decide +kernel
theorem dX5_makes_90 : decode cX5_makes 90 = .ok (.getfield 20, 3) := by decide +kernel
theorem dX5_makes_93 : decode cX5_makes 93 = .ok (.iload_n 2, 1) := by decide +kernel
theorem dX5_makes_94 : decode cX5_makes 94 = .ok (.aaload, 1) := by decide +kernel
theorem dX5_makes_95 : decode cX5_makes 95 = .ok (.invokevirtual 45, 3) := by decide +kernel
theorem dX5_makes_98 : decode cX5_makes 98 = .ok (.iconst 0, 1) := by decide +kernel
theorem dX5_makes_99 : decode cX5_makes 99 = .ok (.istore 4, 2) := by decide +kernel
theorem dX5_makes_101 : decode cX5_makes 101 = .ok (.iconst 0, 1) := by decide +kernel
theorem dX5_makes_102 : decode cX5_makes 102 = .ok (.istore 5, 2) := by decide +kernel
theorem dX5_makes_104 : decode cX5_makes 104 = .ok (.iload 5, 2) := by decide +kernel
theorem dX5_makes_106 : decode cX5_makes 106 = .ok (.aload_n 0, 1) := by decide +kernel
theorem dX5_makes_107 : decode cX5_makes 107 = .ok (.getfield 39, 3) := by decide +kernel
theorem dX5_makes_110 : decode cX5_makes 110 = .ok (.if_icmp .ge 38, 3) := by decide +kernel
theorem dX5_makes_113 : decode cX5_makes 113 = .ok (.aload_n 0, 1) := by decide +kernel
theorem dX5_makes_114 : decode cX5_makes 114 = .ok (.getfield 16, 3) := by decide +kernel
theorem dX5_makes_117 : decode cX5_makes 117 = .ok (.iload 5, 2) := by decide +kernel
theorem dX5_makes_119 : decode cX5_makes 119 = .ok (.aload_n 0, 1) := by decide +kernel
theorem dX5_makes_120 : decode cX5_makes 120 = .ok (.iload 4, 2) := by decide +kernel
theorem dX5_makes_122 : decode cX5_makes 122 = .ok (.iload 5, 2) := by decide +kernel
theorem dX5_makes_124 : decode cX5_makes 124 = .ok (.invokevirtual 49, 3) := by decide +kernel
theorem dX5_makes_127 : decode cX5_makes 127 = .ok (.iastore, 1) := by decide +kernel
theorem dX5_makes_128 : decode cX5_makes 128 = .ok (.aload_n 0, 1) := by decide +kernel
theorem dX5_makes_129 : decode cX5_makes 129 = .ok (.getfield 16, 3) := by decide +kernel
theorem dX5_makes_132 : decode cX5_makes 132 = .ok (.iload 5, 2) := by decide +kernel
theorem dX5_makes_134 : decode cX5_makes 134 = .ok (.iaload, 1) := by decide +kernel
theorem dX5_makes_135 : decode cX5_makes 135 = .ok (.iconst (-1), 1) := by decide +kernel
theorem dX5_makes_136 : decode cX5_makes 136 = .ok (.if_icmp .eq 6, 3) := by decide +kernel
theorem dX5_makes_139 : decode cX5_makes 139 = .ok (.iinc 4 1, 3) := by decide +kernel
theorem dX5_makes_142 : decode cX5_makes 142 = .ok (.iinc 5 1, 3) := by decide +kernel
theorem dX5_makes_145 : decode cX5_makes 145 = .ok (.goto (-41), 3) := by decide +kernel
theorem dX5_makes_148 : decode cX5_makes 148 = .ok (.aload_n 0, 1) := by decide +kernel
theorem dX5_makes_149 : decode cX5_makes 149 = .ok (.iload 4, 2) := by decide +kernel
theorem dX5_makes_151 : decode cX5_makes 151 = .ok (.aload_n 0, 1) := by decide +kernel
theorem dX5_makes_152 : decode cX5_makes 152 = .ok (.getfield 39, 3) := by decide +kernel
theorem dX5_makes_155 : decode cX5_makes 155 = .ok (.invokevirtual 53, 3) := by decide +kernel
theorem dX5_makes_158 : decode cX5_makes 158 = .ok (.iconst (-1), 1) := by decide +kernel
theorem dX5_makes_159 : decode cX5_makes 159 = .ok (.if_icmp .ne 7, 3) := by decide +kernel
theorem dX5_makes_162 : decode cX5_makes 162 = .ok (.iconst 1, 1) := by decide +kernel
theorem dX5_makes_163 : decode cX5_makes 163 = .ok (.goto 4, 3) := by decide +kernel
theorem dX5_makes_166 : decode cX5_makes 166 = .ok (.iconst 0, 1) := by decide +kernel
theorem dX5_makes_167 : decode cX5_makes 167 = .ok (.ireturn, 1) := by decide +kernel
theorem dJ6_bitCount_0f7a4_0 : decode cJ6_bitCount_0f7a4 0 = .ok (.iload_n 0, 1) := by decide +kernel
theorem dJ6_bitCount_0f7a4_1 : decode cJ6_bitCount_0f7a4 1 = .ok (.iload_n 0, 1) := by decide +kernel
theorem dJ6_bitCount_0f7a4_2 : decode cJ6_bitCount_0f7a4 2 = .ok (.iconst 1, 1) := by decide +kernel
theorem dJ6_bitCount_0f7a4_3 : decode cJ6_bitCount_0f7a4 3 = .ok (.iushr, 1) := by decide +kernel
theorem dJ6_bitCount_0f7a4_4 : decode cJ6_bitCount_0f7a4 4 = .ok (.ldc_w 265, 3) := by decide +kernel
theorem dJ6_bitCount_0f7a4_7 : decode cJ6_bitCount_0f7a4 7 = .ok (.iand, 1) := by decide +kernel
theorem dJ6_bitCount_0f7a4_8 : decode cJ6_bitCount_0f7a4 8 = .ok (.isub, 1) := by decide +kernel
theorem dJ6_bitCount_0f7a4_9 : decode cJ6_bitCount_0f7a4 9 = .ok (.istore_n 0, 1) := by decide +kernel
theorem dJ6_bitCount_0f7a4_10 : decode cJ6_bitCount_0f7a4 10 = .ok (.iload_n 0, 1) := by decide +kernel
theorem dJ6_bitCount_0f7a4_11 : decode cJ6_bitCount_0f7a4 11 = .ok (.ldc_w 266, 3) := by decide +kernel
theorem dJ6_bitCount_0f7a4_14 : decode cJ6_bitCount_0f7a4 14 = .ok (.iand, 1) := by decide +kernel
theorem dJ6_bitCount_0f7a4_15 : decode cJ6_bitCount_0f7a4 15 = .ok (.iload_n 0, 1) := by decide +kernel
theorem dJ6_bitCount_0f7a4_16 : decode cJ6_bitCount_0f7a4 16 = .ok (.iconst 2, 1) := by decide +kernel
theorem dJ6_bitCount_0f7a4_17 : decode cJ6_bitCount_0f7a4 17 = .ok (.iushr, 1) := by decide +kernel
theorem dJ6_bitCount_0f7a4_18 : decode cJ6_bitCount_0f7a4 18 = .ok (.ldc_w 266, 3) := by decide +kernel
theorem dJ6_bitCount_0f7a4_21 : decode cJ6_bitCount_0f7a4 21 = .ok (.iand, 1) := by decide +kernel
theorem dJ6_bitCount_0f7a4_22 : decode cJ6_bitCount_0f7a4 22 = .ok (.iadd, 1) := by decide +kernel
theorem dJ6_bitCount_0f7a4_23 : decode cJ6_bitCount_0f7a4 23 = .ok (.istore_n 0, 1) := by decide +kernel
theorem dJ6_bitCount_0f7a4_24 : decode cJ6_bitCount_0f7a4 24 = .ok (.iload_n 0, 1) := by decide +kernel
theorem dJ6_bitCount_0f7a4_25 : decode cJ6_bitCount_0f7a4 25 = .ok (.iload_n 0, 1) := by decide +kernel
theorem dJ6_bitCount_0f7a4_26 : decode cJ6_bitCount_0f7a4 26 = .ok (.iconst 4, 1) := by decide +kernel
theorem dJ6_bitCount_0f7a4_27 : decode cJ6_bitCount_0f7a4 27 = .ok (.iushr, 1) := by decide +kernel
theorem dJ6_bitCount_0f7a4_28 : decode cJ6_bitCount_0f7a4 28 = .ok (.iadd, 1) := by decide +kernel
theorem dJ6_bitCount_0f7a4_29 : decode cJ6_bitCount_0f7a4 29 = .ok (.ldc_w 267, 3) := by decide +kernel
theorem dJ6_bitCount_0f7a4_32 : decode cJ6_bitCount_0f7a4 32 = .ok (.iand, 1) := by decide +kernel
theorem dJ6_bitCount_0f7a4_33 : decode cJ6_bitCount_0f7a4 33 = .ok (.istore_n 0, 1) := by decide +kernel
theorem dJ6_bitCount_0f7a4_34 : decode cJ6_bitCount_0f7a4 34 = .ok (.iload_n 0, 1) := by decide +kernel
theorem dJ6_bitCount_0f7a4_35 : decode cJ6_bitCount_0f7a4 35 = .ok (.iload_n 0, 1) := by decide +kernel
theorem dJ6_bitCount_0f7a4_36 : decode cJ6_bitCount_0f7a4 36 = .ok (.bipush 8, 2) := by decide +kernel
theorem dJ6_bitCount_0f7a4_38 : decode cJ6_bitCount_0f7a4 38 = .ok (.iushr, 1) := by decide +kernel
theorem dJ6_bitCount_0f7a4_39 : decode cJ6_bitCount_0f7a4 39 = .ok (.iadd, 1) := by decide +kernel
theorem dJ6_bitCount_0f7a4_40 : decode cJ6_bitCount_0f7a4 40 = .ok (.istore_n 0, 1) := by decide +kernel
theorem dJ6_bitCount_0f7a4_41 : decode cJ6_bitCount_0f7a4 41 = .ok (.iload_n 0, 1) := by decide +kernel
theorem dJ6_bitCount_0f7a4_42 : decode cJ6_bitCount_0f7a4 42 = .ok (.iload_n 0, 1) := by decide +kernel
theorem dJ6_bitCount_0f7a4_43 : decode cJ6_bitCount_0f7a4 43 = .ok (.bipush 16, 2) := by decide +kernel
theorem dJ6_bitCount_0f7a4_45 : decode cJ6_bitCount_0f7a4 45 = .ok (.iushr, 1) := by decide +kernel
theorem dJ6_bitCount_0f7a4_46 : decode cJ6_bitCount_0f7a4 46 = .ok (.iadd, 1) := by decide +kernel
theorem dJ6_bitCount_0f7a4_47 : decode cJ6_bitCount_0f7a4 47 = .ok (.istore_n 0, 1) := by decide +kernel
theorem dJ6_bitCount_0f7a4_48 : decode cJ6_bitCount_0f7a4 48 = .ok (.iload_n 0, 1) := by decide +kernel
theorem dJ6_bitCount_0f7a4_49 : decode cJ6_bitCount_0f7a4 49 = .ok (.bipush 63, 2) := by decide +kernel
theorem dJ6_bitCount_0f7a4_51 : decode cJ6_bitCount_0f7a4 51 = .ok (.iand, 1) := by decide +kernel
theorem dJ6_bitCount_0f7a4_52 : decode cJ6_bitCount_0f7a4 52 = .ok (.ireturn, 1) := by decide +kernel
theorem dX10_commonOf_0 : decode cX10_commonOf 0 = .ok (.lload_n 0, 1) := by decide +kernel
theorem dX10_commonOf_1 : decode cX10_commonOf 1 = .ok (.lstore 4, 2) := by decide +kernel
theorem dX10_commonOf_3 : decode cX10_commonOf 3 = .ok (.lload_n 2, 1) := by decide +kernel
theorem dX10_commonOf_4 : decode cX10_commonOf 4 = .ok (.lstore 6, 2) := by decide +kernel
theorem dX10_commonOf_6 : decode cX10_commonOf 6 = .ok (.iconst 0, 1) := by decide +kernel
theorem dX10_commonOf_7 : decode cX10_commonOf 7 = .ok (.istore 8, 2) := by decide +kernel
theorem dX10_commonOf_9 : decode cX10_commonOf 9 = .ok (.iload 8, 2) := by decide +kernel
theorem dX10_commonOf_11 : decode cX10_commonOf 11 = .ok (.bipush 100, 2) := by decide +kernel
theorem dX10_commonOf_13 : decode cX10_commonOf 13 = .ok (.if_icmp .ge 31, 3) := by decide +kernel
theorem dX10_commonOf_16 : decode cX10_commonOf 16 = .ok (.lload 6, 2) := by decide +kernel
theorem dX10_commonOf_18 : decode cX10_commonOf 18 = .ok (.lconst 0, 1) := by decide +kernel
theorem dX10_commonOf_19 : decode cX10_commonOf 19 = .ok (.lcmp, 1) := by decide +kernel
theorem dX10_commonOf_20 : decode cX10_commonOf 20 = .ok (.ifCond .eq 24, 3) := by decide +kernel
theorem dX10_commonOf_23 : decode cX10_commonOf 23 = .ok (.lload 4, 2) := by decide +kernel
theorem dX10_commonOf_25 : decode cX10_commonOf 25 = .ok (.lload 6, 2) := by decide +kernel
theorem dX10_commonOf_27 : decode cX10_commonOf 27 = .ok (.lrem, 1) := by decide +kernel
theorem dX10_commonOf_28 : decode cX10_commonOf 28 = .ok (.lstore 9, 2) := by decide +kernel
theorem dX10_commonOf_30 : decode cX10_commonOf 30 = .ok (.lload 6, 2) := by decide +kernel
theorem dX10_commonOf_32 : decode cX10_commonOf 32 = .ok (.lstore 4, 2) := by decide +kernel
theorem dX10_commonOf_34 : decode cX10_commonOf 34 = .ok (.lload 9, 2) := by decide +kernel
theorem dX10_commonOf_36 : decode cX10_commonOf 36 = .ok (.lstore 6, 2) := by decide +kernel
theorem dX10_commonOf_38 : decode cX10_commonOf 38 = .ok (.iinc 8 1, 3) := by decide +kernel
theorem dX10_commonOf_41 : decode cX10_commonOf 41 = .ok (.goto (-32), 3) := by decide +kernel
theorem dX10_commonOf_44 : decode cX10_commonOf 44 = .ok (.lload 4, 2) := by decide +kernel
theorem dX10_commonOf_46 : decode cX10_commonOf 46 = .ok (.lreturn, 1) := by decide +kernel
theorem dX10_partOf_0 : decode cX10_partOf 0 = .ok (.lload_n 0, 1) := by decide +kernel
theorem dX10_partOf_1 : decode cX10_partOf 1 = .ok (.invokestatic 321, 3) := by decide +kernel
theorem dX10_partOf_4 : decode cX10_partOf 4 = .ok (.lload_n 2, 1) := by decide +kernel
theorem dX10_partOf_5 : decode cX10_partOf 5 = .ok (.invokestatic 321, 3) := by decide +kernel
theorem dX10_partOf_8 : decode cX10_partOf 8 = .ok (.invokestatic 325, 3) := by decide +kernel
theorem dX10_partOf_11 : decode cX10_partOf 11 = .ok (.lstore 5, 2) := by decide +kernel
theorem dX10_partOf_13 : decode cX10_partOf 13 = .ok (.lload 5, 2) := by decide +kernel
theorem dX10_partOf_15 : decode cX10_partOf 15 = .ok (.lconst 0, 1) := by decide +kernel
theorem dX10_partOf_16 : decode cX10_partOf 16 = .ok (.lcmp, 1) := by decide +kernel
theorem dX10_partOf_17 : decode cX10_partOf 17 = .ok (.ifCond .ne 14, 3) := by decide +kernel
theorem dX10_partOf_20 : decode cX10_partOf 20 = .ok (.iload 4, 2) := by decide +kernel
theorem dX10_partOf_22 : decode cX10_partOf 22 = .ok (.ifCond .ne 7, 3) := by decide +kernel
theorem dX10_partOf_25 : decode cX10_partOf 25 = .ok (.lconst 0, 1) := by decide +kernel
theorem dX10_partOf_26 : decode cX10_partOf 26 = .ok (.goto 4, 3) := by decide +kernel
theorem dX10_partOf_29 : decode cX10_partOf 29 = .ok (.lconst 1, 1) := by decide +kernel
theorem dX10_partOf_30 : decode cX10_partOf 30 = .ok (.lreturn, 1) := by decide +kernel
theorem dX10_partOf_31 : decode cX10_partOf 31 = .ok (.iload 4, 2) := by decide +kernel
theorem dX10_partOf_33 : decode cX10_partOf 33 = .ok (.ifCond .eq 11, 3) := by decide +kernel
theorem dX10_partOf_36 : decode cX10_partOf 36 = .ok (.lload_n 2, 1) := by decide +kernel
theorem dX10_partOf_37 : decode cX10_partOf 37 = .ok (.invokestatic 321, 3) := by decide +kernel
theorem dX10_partOf_40 : decode cX10_partOf 40 = .ok (.lload 5, 2) := by decide +kernel
theorem dX10_partOf_42 : decode cX10_partOf 42 = .ok (.ldiv, 1) := by decide +kernel
theorem dX10_partOf_43 : decode cX10_partOf 43 = .ok (.lreturn, 1) := by decide +kernel
theorem dX10_partOf_44 : decode cX10_partOf 44 = .ok (.lload_n 2, 1) := by decide +kernel
theorem dX10_partOf_45 : decode cX10_partOf 45 = .ok (.lconst 0, 1) := by decide +kernel
theorem dX10_partOf_46 : decode cX10_partOf 46 = .ok (.lcmp, 1) := by decide +kernel
theorem dX10_partOf_47 : decode cX10_partOf 47 = .ok (.ifCond .ge 8, 3) := by decide +kernel
theorem dX10_partOf_50 : decode cX10_partOf 50 = .ok (.lload_n 0, 1) := by decide +kernel
theorem dX10_partOf_51 : decode cX10_partOf 51 = .ok (.lneg, 1) := by decide +kernel
theorem dX10_partOf_52 : decode cX10_partOf 52 = .ok (.goto 4, 3) := by decide +kernel
theorem dX10_partOf_55 : decode cX10_partOf 55 = .ok (.lload_n 0, 1) := by decide +kernel
theorem dX10_partOf_56 : decode cX10_partOf 56 = .ok (.lload 5, 2) := by decide +kernel
theorem dX10_partOf_58 : decode cX10_partOf 58 = .ok (.ldiv, 1) := by decide +kernel
theorem dX10_partOf_59 : decode cX10_partOf 59 = .ok (.lreturn, 1) := by decide +kernel
theorem dX5_fraction_0 : decode cX5_fraction 0 = .ok (.iload_n 1, 1) := by decide +kernel
theorem dX5_fraction_1 : decode cX5_fraction 1 = .ok (.iconst 1, 1) := by decide +kernel
theorem dX5_fraction_2 : decode cX5_fraction 2 = .ok (.iload_n 2, 1) := by decide +kernel
theorem dX5_fraction_3 : decode cX5_fraction 3 = .ok (.ishl, 1) := by decide +kernel
theorem dX5_fraction_4 : decode cX5_fraction 4 = .ok (.iconst 1, 1) := by decide +kernel
theorem dX5_fraction_5 : decode cX5_fraction 5 = .ok (.isub, 1) := by decide +kernel
theorem dX5_fraction_6 : decode cX5_fraction 6 = .ok (.iand, 1) := by decide +kernel
theorem dX5_fraction_7 : decode cX5_fraction 7 = .ok (.invokestatic 63, 3) := by decide +kernel
theorem dX5_fraction_10 : decode cX5_fraction 10 = .ok (.istore 4, 2) := by decide +kernel
theorem dX5_fraction_12 : decode cX5_fraction 12 = .ok (.iload_n 1, 1) := by decide +kernel
theorem dX5_fraction_13 : decode cX5_fraction 13 = .ok (.iload_n 2, 1) := by decide +kernel
theorem dX5_fraction_14 : decode cX5_fraction 14 = .ok (.ishr, 1) := by decide +kernel
theorem dX5_fraction_15 : decode cX5_fraction 15 = .ok (.iconst 1, 1) := by decide +kernel
theorem dX5_fraction_16 : decode cX5_fraction 16 = .ok (.iand, 1) := by decide +kernel
theorem dX5_fraction_17 : decode cX5_fraction 17 = .ok (.ifCond .eq 23, 3) := by decide +kernel
theorem dX5_fraction_20 : decode cX5_fraction 20 = .ok (.iload 4, 2) := by decide +kernel
theorem dX5_fraction_22 : decode cX5_fraction 22 = .ok (.aload_n 0, 1) := by decide +kernel
theorem dX5_fraction_23 : decode cX5_fraction 23 = .ok (.getfield 39, 3) := by decide +kernel
theorem dX5_fraction_26 : decode cX5_fraction 26 = .ok (.if_icmp .ge 14, 3) := by decide +kernel
theorem dX5_fraction_29 : decode cX5_fraction 29 = .ok (.aload_n 0, 1) := by decide +kernel
theorem dX5_fraction_30 : decode cX5_fraction 30 = .ok (.getfield 16, 3) := by decide +kernel
theorem dX5_fraction_33 : decode cX5_fraction 33 = .ok (.iload 4, 2) := by decide +kernel
theorem dX5_fraction_35 : decode cX5_fraction 35 = .ok (.iaload, 1) := by decide +kernel
theorem dX5_fraction_36 : decode cX5_fraction 36 = .ok (.iconst (-1), 1) := by decide +kernel
theorem dX5_fraction_37 : decode cX5_fraction 37 = .ok (.if_icmp .ne 10, 3) := by decide +kernel
theorem dX5_fraction_40 : decode cX5_fraction 40 = .ok (.lconst 0, 1) := by decide +kernel
theorem dX5_fraction_41 : decode cX5_fraction 41 = .ok (.lconst 1, 1) := by decide +kernel
theorem dX5_fraction_42 : decode cX5_fraction 42 = .ok (.iload_n 3, 1) := by decide +kernel
theorem dX5_fraction_43 : decode cX5_fraction 43 = .ok (.invokestatic 68, 3) := by decide +kernel
theorem dX5_fraction_46 : decode cX5_fraction 46 = .ok (.lreturn, 1) := by decide +kernel
theorem dX5_fraction_47 : decode cX5_fraction 47 = .ok (.aload_n 0, 1) := by decide +kernel
theorem dX5_fraction_48 : decode cX5_fraction 48 = .ok (.getfield 11, 3) := by decide +kernel
theorem dX5_fraction_51 : decode cX5_fraction 51 = .ok (.aload_n 0, 1) := by decide +kernel
theorem dX5_fraction_52 : decode cX5_fraction 52 = .ok (.getfield 16, 3) := by decide +kernel
theorem dX5_fraction_55 : decode cX5_fraction 55 = .ok (.iload 4, 2) := by decide +kernel
theorem dX5_fraction_57 : decode cX5_fraction 57 = .ok (.iaload, 1) := by decide +kernel
theorem dX5_fraction_58 : decode cX5_fraction 58 = .ok (.aaload, 1) := by decide +kernel
theorem dX5_fraction_59 : decode cX5_fraction 59 = .ok (.astore 5, 2) := by decide +kernel
theorem dX5_fraction_61 : decode cX5_fraction 61 = .ok (.aload 5, 2) := by decide +kernel
theorem dX5_fraction_63 : decode cX5_fraction 63 = .ok (.aload_n 0, 1) := by decide +kernel
theorem dX5_fraction_64 : decode cX5_fraction 64 = .ok (.getfield 39, 3) := by decide +kernel
theorem dX5_fraction_67 : decode cX5_fraction 67 = .ok (.laload, 1) := by decide +kernel
theorem dX5_fraction_68 : decode cX5_fraction 68 = .ok (.aload 5, 2) := by decide +kernel
theorem dX5_fraction_70 : decode cX5_fraction 70 = .ok (.iload 4, 2) := by decide +kernel
theorem dX5_fraction_72 : decode cX5_fraction 72 = .ok (.laload, 1) := by decide +kernel
theorem dX5_fraction_73 : decode cX5_fraction 73 = .ok (.iload_n 3, 1) := by decide +kernel
theorem dX5_fraction_74 : decode cX5_fraction 74 = .ok (.invokestatic 68, 3) := by decide +kernel
theorem dX5_fraction_77 : decode cX5_fraction 77 = .ok (.lreturn, 1) := by decide +kernel
theorem dX6_isFull_0 : decode cX6_isFull 0 = .ok (.aload_n 0, 1) := by decide +kernel
theorem dX6_isFull_1 : decode cX6_isFull 1 = .ok (.getfield 32, 3) := by decide +kernel
theorem dX6_isFull_4 : decode cX6_isFull 4 = .ok (.bipush 6, 2) := by decide +kernel
theorem dX6_isFull_6 : decode cX6_isFull 6 = .ok (.if_icmp .lt 7, 3) := by decide +kernel
theorem dX6_isFull_9 : decode cX6_isFull 9 = .ok (.iconst 1, 1) := by decide +kernel
theorem dX6_isFull_10 : decode cX6_isFull 10 = .ok (.goto 4, 3) := by decide +kernel
theorem dX6_isFull_13 : decode cX6_isFull 13 = .ok (.iconst 0, 1) := by decide +kernel
theorem dX6_isFull_14 : decode cX6_isFull 14 = .ok (.ireturn, 1) := by decide +kernel
theorem dX6_lacks_0 : decode cX6_lacks 0 = .ok (.iload_n 1, 1) := by decide +kernel
theorem dX6_lacks_1 : decode cX6_lacks 1 = .ok (.aload_n 0, 1) := by decide +kernel
theorem dX6_lacks_2 : decode cX6_lacks 2 = .ok (.getfield 32, 3) := by decide +kernel
theorem dX6_lacks_5 : decode cX6_lacks 5 = .ok (.invokestatic 35, 3) := by decide +kernel
theorem dX6_lacks_8 : decode cX6_lacks 8 = .ok (.ireturn, 1) := by decide +kernel
theorem dX6_lacksOf_0 : decode cX6_lacksOf 0 = .ok (.iload_n 1, 1) := by decide +kernel
theorem dX6_lacksOf_1 : decode cX6_lacksOf 1 = .ok (.iconst 1, 1) := by decide +kernel
theorem dX6_lacksOf_2 : decode cX6_lacksOf 2 = .ok (.if_icmp .lt 13, 3) := by decide +kernel
theorem dX6_lacksOf_5 : decode cX6_lacksOf 5 = .ok (.iload_n 1, 1) := by decide +kernel
theorem dX6_lacksOf_6 : decode cX6_lacksOf 6 = .ok (.iconst 1, 1) := by decide +kernel
theorem dX6_lacksOf_7 : decode cX6_lacksOf 7 = .ok (.aload_n 0, 1) := by decide +kernel
theorem dX6_lacksOf_8 : decode cX6_lacksOf 8 = .ok (.getfield 32, 3) := by decide +kernel
theorem dX6_lacksOf_11 : decode cX6_lacksOf 11 = .ok (.ishl, 1) := by decide +kernel
theorem dX6_lacksOf_12 : decode cX6_lacksOf 12 = .ok (.if_icmp .lt 7, 3) := by decide +kernel
theorem dX6_lacksOf_15 : decode cX6_lacksOf 15 = .ok (.iconst 1, 1) := by decide +kernel
theorem dX6_lacksOf_16 : decode cX6_lacksOf 16 = .ok (.goto 4, 3) := by decide +kernel
theorem dX6_lacksOf_19 : decode cX6_lacksOf 19 = .ok (.iconst 0, 1) := by decide +kernel
theorem dX6_lacksOf_20 : decode cX6_lacksOf 20 = .ok (.ireturn, 1) := by decide +kernel
theorem dX6_keepImage_0 : decode cX6_keepImage 0 = .ok (.iconst 0, 1) := by decide +kernel
theorem dX6_keepImage_1 : decode cX6_keepImage 1 = .ok (.istore_n 1, 1) := by decide +kernel
theorem dX6_keepImage_2 : decode cX6_keepImage 2 = .ok (.iload_n 1, 1) := by decide +kernel
theorem dX6_keepImage_3 : decode cX6_keepImage 3 = .ok (.aload_n 0, 1) := by decide +kernel
theorem dX6_keepImage_4 : decode cX6_keepImage 4 = .ok (.getfield 32, 3) := by decide +kernel
theorem dX6_keepImage_7 : decode cX6_keepImage 7 = .ok (.if_icmp .ge 24, 3) := by decide +kernel
theorem dX6_keepImage_10 : decode cX6_keepImage 10 = .ok (.aload_n 0, 1) := by decide +kernel
theorem dX6_keepImage_11 : decode cX6_keepImage 11 = .ok (.getfield 17, 3) := by decide +kernel
theorem dX6_keepImage_14 : decode cX6_keepImage 14 = .ok (.iload_n 1, 1) := by decide +kernel
theorem dX6_keepImage_15 : decode cX6_keepImage 15 = .ok (.aaload, 1) := by decide +kernel
theorem dX6_keepImage_16 : decode cX6_keepImage 16 = .ok (.aload_n 0, 1) := by decide +kernel
theorem dX6_keepImage_17 : decode cX6_keepImage 17 = .ok (.getfield 11, 3) := by decide +kernel
theorem dX6_keepImage_20 : decode cX6_keepImage 20 = .ok (.iload_n 1, 1) := by decide +kernel
theorem dX6_keepImage_21 : decode cX6_keepImage 21 = .ok (.aaload, 1) := by decide +kernel
theorem dX6_keepImage_22 : decode cX6_keepImage 22 = .ok (.invokevirtual 39, 3) := by decide +kernel
theorem dX6_keepImage_25 : decode cX6_keepImage 25 = .ok (.iinc 1 1, 3) := by decide +kernel
theorem dX6_keepImage_28 : decode cX6_keepImage 28 = .ok (.goto (-26), 3) := by decide +kernel
theorem dX6_keepImage_31 : decode cX6_keepImage 31 = .ok (.aload_n 0, 1) := by decide +kernel
theorem dX6_keepImage_32 : decode cX6_keepImage 32 = .ok (.aload_n 0, 1) := by decide +kernel
theorem dX6_keepImage_33 : decode cX6_keepImage 33 = .ok (.getfield 32, 3) := by decide +kernel
theorem dX6_keepImage_36 : decode cX6_keepImage 36 = .ok (.putfield 27, 3) := by decide +kernel
theorem dX6_keepImage_39 : decode cX6_keepImage 39 = .ok (.return_, 1) := by decide +kernel
theorem dX6_restoreImage_0 : decode cX6_restoreImage 0 = .ok (.iconst 0, 1) := by decide +kernel
theorem dX6_restoreImage_1 : decode cX6_restoreImage 1 = .ok (.istore_n 1, 1) := by decide +kernel
theorem dX6_restoreImage_2 : decode cX6_restoreImage 2 = .ok (.iload_n 1, 1) := by decide +kernel
theorem dX6_restoreImage_3 : decode cX6_restoreImage 3 = .ok (.aload_n 0, 1) := by decide +kernel
theorem dX6_restoreImage_4 : decode cX6_restoreImage 4 = .ok (.getfield 27, 3) := by decide +kernel
theorem dX6_restoreImage_7 : decode cX6_restoreImage 7 = .ok (.if_icmp .ge 24, 3) := by decide +kernel
theorem dX6_restoreImage_10 : decode cX6_restoreImage 10 = .ok (.aload_n 0, 1) := by decide +kernel
theorem dX6_restoreImage_11 : decode cX6_restoreImage 11 = .ok (.getfield 11, 3) := by decide +kernel
theorem dX6_restoreImage_14 : decode cX6_restoreImage 14 = .ok (.iload_n 1, 1) := by decide +kernel
theorem dX6_restoreImage_15 : decode cX6_restoreImage 15 = .ok (.aaload, 1) := by decide +kernel
theorem dX6_restoreImage_16 : decode cX6_restoreImage 16 = .ok (.aload_n 0, 1) := by decide +kernel
theorem dX6_restoreImage_17 : decode cX6_restoreImage 17 = .ok (.getfield 17, 3) := by decide +kernel
theorem dX6_restoreImage_20 : decode cX6_restoreImage 20 = .ok (.iload_n 1, 1) := by decide +kernel
theorem dX6_restoreImage_21 : decode cX6_restoreImage 21 = .ok (.aaload, 1) := by decide +kernel
theorem dX6_restoreImage_22 : decode cX6_restoreImage 22 = .ok (.invokevirtual 39, 3) := by decide +kernel
theorem dX6_restoreImage_25 : decode cX6_restoreImage 25 = .ok (.iinc 1 1, 3) := by decide +kernel
theorem dX6_restoreImage_28 : decode cX6_restoreImage 28 = .ok (.goto (-26), 3) := by decide +kernel
theorem dX6_restoreImage_31 : decode cX6_restoreImage 31 = .ok (.aload_n 0, 1) := by decide +kernel
theorem dX6_restoreImage_32 : decode cX6_restoreImage 32 = .ok (.aload_n 0, 1) := by decide +kernel
theorem dX6_restoreImage_33 : decode cX6_restoreImage 33 = .ok (.getfield 27, 3) := by decide +kernel
theorem dX6_restoreImage_36 : decode cX6_restoreImage 36 = .ok (.putfield 32, 3) := by decide +kernel
theorem dX6_restoreImage_39 : decode cX6_restoreImage 39 = .ok (.return_, 1) := by decide +kernel
theorem dX6_termsOfAll_0 : decode cX6_termsOfAll 0 = .ok (.iconst 0, 1) := by decide +kernel
theorem dX6_termsOfAll_1 : decode cX6_termsOfAll 1 = .ok (.istore_n 1, 1) := by decide +kernel
theorem dX6_termsOfAll_2 : decode cX6_termsOfAll 2 = .ok (.iconst 0, 1) := by decide +kernel
theorem dX6_termsOfAll_3 : decode cX6_termsOfAll 3 = .ok (.istore_n 2, 1) := by decide +kernel
theorem dX6_termsOfAll_4 : decode cX6_termsOfAll 4 = .ok (.iload_n 2, 1) := by decide +kernel
theorem dX6_termsOfAll_5 : decode cX6_termsOfAll 5 = .ok (.aload_n 0, 1) := by decide +kernel
theorem dX6_termsOfAll_6 : decode cX6_termsOfAll 6 = .ok (.getfield 32, 3) := by decide +kernel
theorem dX6_termsOfAll_9 : decode cX6_termsOfAll 9 = .ok (.if_icmp .ge 24, 3) := by decide +kernel
theorem dX6_termsOfAll_12 : decode cX6_termsOfAll 12 = .ok (.iload_n 1, 1) := by decide +kernel
theorem dX6_termsOfAll_13 : decode cX6_termsOfAll 13 = .ok (.aload_n 0, 1) := by decide +kernel
theorem dX6_termsOfAll_14 : decode cX6_termsOfAll 14 = .ok (.getfield 11, 3) := by decide +kernel
theorem dX6_termsOfAll_17 : decode cX6_termsOfAll 17 = .ok (.iload_n 2, 1) := by decide +kernel
theorem dX6_termsOfAll_18 : decode cX6_termsOfAll 18 = .ok (.aaload, 1) := by decide +kernel
theorem dX6_termsOfAll_19 : decode cX6_termsOfAll 19 = .ok (.getfield 43, 3) := by decide +kernel
theorem dX6_termsOfAll_22 : decode cX6_termsOfAll 22 = .ok (.invokestatic 46, 3) := by decide +kernel
theorem dX6_termsOfAll_25 : decode cX6_termsOfAll 25 = .ok (.iadd, 1) := by decide +kernel
theorem dX6_termsOfAll_26 : decode cX6_termsOfAll 26 = .ok (.istore_n 1, 1) := by decide +kernel
theorem dX6_termsOfAll_27 : decode cX6_termsOfAll 27 = .ok (.iinc 2 1, 3) := by decide +kernel
theorem dX6_termsOfAll_30 : decode cX6_termsOfAll 30 = .ok (.goto (-26), 3) := by decide +kernel
theorem dX6_termsOfAll_33 : decode cX6_termsOfAll 33 = .ok (.iload_n 1, 1) := by decide +kernel
theorem dX6_termsOfAll_34 : decode cX6_termsOfAll 34 = .ok (.ireturn, 1) := by decide +kernel
