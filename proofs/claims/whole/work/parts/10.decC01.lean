theorem dX6_clearForms_0 : decode cX6_clearForms 0 = .ok (.iconst 0, 1) := by decide +kernel
theorem dX6_clearForms_1 : decode cX6_clearForms 1 = .ok (.istore_n 1, 1) := by decide +kernel
theorem dX6_clearForms_2 : decode cX6_clearForms 2 = .ok (.iconst 0, 1) := by decide +kernel
theorem dX6_clearForms_3 : decode cX6_clearForms 3 = .ok (.istore_n 2, 1) := by decide +kernel
theorem dX6_clearForms_4 : decode cX6_clearForms 4 = .ok (.iload_n 2, 1) := by decide +kernel
theorem dX6_clearForms_5 : decode cX6_clearForms 5 = .ok (.aload_n 0, 1) := by decide +kernel
theorem dX6_clearForms_6 : decode cX6_clearForms 6 = .ok (.getfield 32, 3) := by decide +kernel
theorem dX6_clearForms_9 : decode cX6_clearForms 9 = .ok (.if_icmp .ge 28, 3) := by decide +kernel
theorem dX6_clearForms_12 : decode cX6_clearForms 12 = .ok (.aload_n 0, 1) := by decide +kernel
theorem dX6_clearForms_13 : decode cX6_clearForms 13 = .ok (.getfield 11, 3) := by decide +kernel
theorem dX6_clearForms_16 : decode cX6_clearForms 16 = .ok (.iload_n 2, 1) := by decide +kernel
theorem dX6_clearForms_17 : decode cX6_clearForms 17 = .ok (.aaload, 1) := by decide +kernel
theorem dX6_clearForms_18 : decode cX6_clearForms 18 = .ok (.iconst 1, 1) := by decide +kernel
theorem dX6_clearForms_19 : decode cX6_clearForms 19 = .ok (.invokevirtual 50, 3) := by decide +kernel
theorem dX6_clearForms_22 : decode cX6_clearForms 22 = .ok (.ifCond .ne 9, 3) := by decide +kernel
theorem dX6_clearForms_25 : decode cX6_clearForms 25 = .ok (.iload_n 1, 1) := by decide +kernel
theorem dX6_clearForms_26 : decode cX6_clearForms 26 = .ok (.iconst 1, 1) := by decide +kernel
theorem dX6_clearForms_27 : decode cX6_clearForms 27 = .ok (.iload_n 2, 1) := by decide +kernel
theorem dX6_clearForms_28 : decode cX6_clearForms 28 = .ok (.ishl, 1) := by decide +kernel
theorem dX6_clearForms_29 : decode cX6_clearForms 29 = .ok (.ior, 1) := by decide +kernel
theorem dX6_clearForms_30 : decode cX6_clearForms 30 = .ok (.istore_n 1, 1) := by decide +kernel
theorem dX6_clearForms_31 : decode cX6_clearForms 31 = .ok (.iinc 2 1, 3) := by decide +kernel
theorem dX6_clearForms_34 : decode cX6_clearForms 34 = .ok (.goto (-30), 3) := by decide +kernel
theorem dX6_clearForms_37 : decode cX6_clearForms 37 = .ok (.iload_n 1, 1) := by decide +kernel
theorem dX6_clearForms_38 : decode cX6_clearForms 38 = .ok (.ireturn, 1) := by decide +kernel
theorem dX6_isSmall_0 : decode cX6_isSmall 0 = .ok (.iconst 0, 1) := by decide +kernel
theorem dX6_isSmall_1 : decode cX6_isSmall 1 = .ok (.istore_n 1, 1) := by decide +kernel
theorem dX6_isSmall_2 : decode cX6_isSmall 2 = .ok (.iload_n 1, 1) := by decide +kernel
theorem dX6_isSmall_3 : decode cX6_isSmall 3 = .ok (.aload_n 0, 1) := by decide +kernel
theorem dX6_isSmall_4 : decode cX6_isSmall 4 = .ok (.getfield 43, 3) := by decide +kernel
theorem dX6_isSmall_7 : decode cX6_isSmall 7 = .ok (.invokestatic 46, 3) := by decide +kernel
theorem dX6_isSmall_10 : decode cX6_isSmall 10 = .ok (.if_icmp .ge 24, 3) := by decide +kernel
theorem dX6_isSmall_13 : decode cX6_isSmall 13 = .ok (.aload_n 0, 1) := by decide +kernel
theorem dX6_isSmall_14 : decode cX6_isSmall 14 = .ok (.iload_n 1, 1) := by decide +kernel
theorem dX6_isSmall_15 : decode cX6_isSmall 15 = .ok (.invokevirtual 63, 3) := by decide +kernel
theorem dX6_isSmall_18 : decode cX6_isSmall 18 = .ok (.invokestatic 66, 3) := by decide +kernel
theorem dX6_isSmall_21 : decode cX6_isSmall 21 = .ok (.bipush 99, 2) := by decide +kernel
theorem dX6_isSmall_23 : decode cX6_isSmall 23 = .ok (.if_icmp .le 5, 3) := by decide +kernel
theorem dX6_isSmall_26 : decode cX6_isSmall 26 = .ok (.iconst 0, 1) := by decide +kernel
theorem dX6_isSmall_27 : decode cX6_isSmall 27 = .ok (.ireturn, 1) := by decide +kernel
theorem dX6_isSmall_28 : decode cX6_isSmall 28 = .ok (.iinc 1 1, 3) := by decide +kernel
theorem dX6_isSmall_31 : decode cX6_isSmall 31 = .ok (.goto (-29), 3) := by decide +kernel
theorem dX6_isSmall_34 : decode cX6_isSmall 34 = .ok (.iconst 1, 1) := by decide +kernel
theorem dX6_isSmall_35 : decode cX6_isSmall 35 = .ok (.ireturn, 1) := by decide +kernel
theorem dX6_canMake_0 : decode cX6_canMake 0 = .ok (.iload_n 2, 1) := by decide +kernel
theorem dX6_canMake_1 : decode cX6_canMake 1 = .ok (.invokestatic 54, 3) := by decide +kernel
theorem dX6_canMake_4 : decode cX6_canMake 4 = .ok (.iconst 3, 1) := by decide +kernel
theorem dX6_canMake_5 : decode cX6_canMake 5 = .ok (.if_icmp .gt 11, 3) := by decide +kernel
theorem dX6_canMake_8 : decode cX6_canMake 8 = .ok (.iload_n 2, 1) := by decide +kernel
theorem dX6_canMake_9 : decode cX6_canMake 9 = .ok (.iload_n 1, 1) := by decide +kernel
theorem dX6_canMake_10 : decode cX6_canMake 10 = .ok (.ishr, 1) := by decide +kernel
theorem dX6_canMake_11 : decode cX6_canMake 11 = .ok (.iconst 1, 1) := by decide +kernel
theorem dX6_canMake_12 : decode cX6_canMake 12 = .ok (.iand, 1) := by decide +kernel
theorem dX6_canMake_13 : decode cX6_canMake 13 = .ok (.ifCond .eq 5, 3) := by decide +kernel
theorem dX6_canMake_16 : decode cX6_canMake 16 = .ok (.iconst 0, 1) := by decide +kernel
theorem dX6_canMake_17 : decode cX6_canMake 17 = .ok (.ireturn, 1) := by decide +kernel
theorem dX6_canMake_18 : decode cX6_canMake 18 = .ok (.iconst 0, 1) := by decide +kernel
theorem dX6_canMake_19 : decode cX6_canMake 19 = .ok (.istore_n 3, 1) := by decide +kernel
theorem dX6_canMake_20 : decode cX6_canMake 20 = .ok (.iload_n 3, 1) := by decide +kernel
theorem dX6_canMake_21 : decode cX6_canMake 21 = .ok (.aload_n 0, 1) := by decide +kernel
theorem dX6_canMake_22 : decode cX6_canMake 22 = .ok (.getfield 32, 3) := by decide +kernel
theorem dX6_canMake_25 : decode cX6_canMake 25 = .ok (.if_icmp .ge 60, 3) := by decide +kernel
theorem dX6_canMake_28 : decode cX6_canMake 28 = .ok (.iload_n 3, 1) := by decide +kernel
theorem dX6_canMake_29 : decode cX6_canMake 29 = .ok (.iload_n 1, 1) := by decide +kernel
theorem dX6_canMake_30 : decode cX6_canMake 30 = .ok (.if_icmp .eq 14, 3) := by decide +kernel
theorem dX6_canMake_33 : decode cX6_canMake 33 = .ok (.iload_n 2, 1) := by decide +kernel
theorem dX6_canMake_34 : decode cX6_canMake 34 = .ok (.iload_n 3, 1) := by decide +kernel
theorem dX6_canMake_35 : decode cX6_canMake 35 = .ok (.ishr, 1) := by decide +kernel
theorem dX6_canMake_36 : decode cX6_canMake 36 = .ok (.iconst 1, 1) := by decide +kernel
theorem dX6_canMake_37 : decode cX6_canMake 37 = .ok (.iand, 1) := by decide +kernel
theorem dX6_canMake_38 : decode cX6_canMake 38 = .ok (.ifCond .ne 6, 3) := by decide +kernel
theorem dX6_canMake_41 : decode cX6_canMake 41 = .ok (.goto 38, 3) := by decide +kernel
theorem dX6_canMake_44 : decode cX6_canMake 44 = .ok (.aload_n 0, 1) := by decide +kernel
theorem dX6_canMake_45 : decode cX6_canMake 45 = .ok (.getfield 11, 3) := by decide +kernel
theorem dX6_canMake_48 : decode cX6_canMake 48 = .ok (.iload_n 3, 1) := by decide +kernel
theorem dX6_canMake_49 : decode cX6_canMake 49 = .ok (.aaload, 1) := by decide +kernel
theorem dX6_canMake_50 : decode cX6_canMake 50 = .ok (.getfield 43, 3) := by decide +kernel
theorem dX6_canMake_53 : decode cX6_canMake 53 = .ok (.aload_n 0, 1) := by decide +kernel
theorem dX6_canMake_54 : decode cX6_canMake 54 = .ok (.getfield 11, 3) := by decide +kernel
theorem dX6_canMake_57 : decode cX6_canMake 57 = .ok (.iload_n 1, 1) := by decide +kernel
theorem dX6_canMake_58 : decode cX6_canMake 58 = .ok (.aaload, 1) := by decide +kernel
theorem dX6_canMake_59 : decode cX6_canMake 59 = .ok (.getfield 43, 3) := by decide +kernel
theorem dX6_canMake_62 : decode cX6_canMake 62 = .ok (.if_icmp .ne 15, 3) := by decide +kernel
theorem dX6_canMake_65 : decode cX6_canMake 65 = .ok (.aload_n 0, 1) := by decide +kernel
theorem dX6_canMake_66 : decode cX6_canMake 66 = .ok (.getfield 11, 3) := by decide +kernel
theorem dX6_canMake_69 : decode cX6_canMake 69 = .ok (.iload_n 3, 1) := by decide +kernel
theorem dX6_canMake_70 : decode cX6_canMake 70 = .ok (.aaload, 1) := by decide +kernel
theorem dX6_canMake_71 : decode cX6_canMake 71 = .ok (.invokestatic 59, 3) := by decide +kernel
theorem dX6_canMake_74 : decode cX6_canMake 74 = .ok (.ifCond .ne 5, 3) := by decide +kernel
theorem dX6_canMake_77 : decode cX6_canMake 77 = .ok (.iconst 0, 1) := by decide +kernel
theorem dX6_canMake_78 : decode cX6_canMake 78 = .ok (.ireturn, 1) := by decide +kernel
theorem dX6_canMake_79 : decode cX6_canMake 79 = .ok (.iinc 3 1, 3) := by decide +kernel
theorem dX6_canMake_82 : decode cX6_canMake 82 = .ok (.goto (-62), 3) := by decide +kernel
theorem dX6_canMake_85 : decode cX6_canMake 85 = .ok (.iconst 1, 1) := by decide +kernel
theorem dX6_canMake_86 : decode cX6_canMake 86 = .ok (.ireturn, 1) := by decide +kernel
theorem dX10_standsOn_0 : decode cX10_standsOn 0 = .ok (.iload_n 1, 1) := by decide +kernel
theorem dX10_standsOn_1 : decode cX10_standsOn 1 = .ok (.ifCond .eq 9, 3) := by decide +kernel
theorem dX10_standsOn_4 : decode cX10_standsOn 4 = .ok (.iload_n 0, 1) := by decide +kernel
theorem dX10_standsOn_5 : decode cX10_standsOn 5 = .ok (.iconst 1, 1) := by decide +kernel
theorem dX10_standsOn_6 : decode cX10_standsOn 6 = .ok (.iand, 1) := by decide +kernel
theorem dX10_standsOn_7 : decode cX10_standsOn 7 = .ok (.ifCond .eq 27, 3) := by decide +kernel
theorem dX10_standsOn_10 : decode cX10_standsOn 10 = .ok (.iload_n 2, 1) := by decide +kernel
theorem dX10_standsOn_11 : decode cX10_standsOn 11 = .ok (.ifCond .eq 9, 3) := by decide +kernel
theorem dX10_standsOn_14 : decode cX10_standsOn 14 = .ok (.iload_n 0, 1) := by decide +kernel
theorem dX10_standsOn_15 : decode cX10_standsOn 15 = .ok (.iconst 2, 1) := by decide +kernel
theorem dX10_standsOn_16 : decode cX10_standsOn 16 = .ok (.iand, 1) := by decide +kernel
theorem dX10_standsOn_17 : decode cX10_standsOn 17 = .ok (.ifCond .eq 17, 3) := by decide +kernel
theorem dX10_standsOn_20 : decode cX10_standsOn 20 = .ok (.iload_n 3, 1) := by decide +kernel
theorem dX10_standsOn_21 : decode cX10_standsOn 21 = .ok (.ifCond .eq 9, 3) := by decide +kernel
theorem dX10_standsOn_24 : decode cX10_standsOn 24 = .ok (.iload_n 0, 1) := by decide +kernel
theorem dX10_standsOn_25 : decode cX10_standsOn 25 = .ok (.iconst 4, 1) := by decide +kernel
theorem dX10_standsOn_26 : decode cX10_standsOn 26 = .ok (.iand, 1) := by decide +kernel
theorem dX10_standsOn_27 : decode cX10_standsOn 27 = .ok (.ifCond .eq 7, 3) := by decide +kernel
theorem dX10_standsOn_30 : decode cX10_standsOn 30 = .ok (.iconst 1, 1) := by decide +kernel
theorem dX10_standsOn_31 : decode cX10_standsOn 31 = .ok (.goto 4, 3) := by decide +kernel
theorem dX10_standsOn_34 : decode cX10_standsOn 34 = .ok (.iconst 0, 1) := by decide +kernel
theorem dX10_standsOn_35 : decode cX10_standsOn 35 = .ok (.ireturn, 1) := by decide +kernel
theorem dX9_takeOn_0 : decode cX9_takeOn 0 = .ok (.aload_n 0, 1) := by decide +kernel
theorem dX9_takeOn_1 : decode cX9_takeOn 1 = .ok (.aload_n 1, 1) := by decide +kernel
theorem dX9_takeOn_2 : decode cX9_takeOn 2 = .ok (.getfield 23, 3) := by decide +kernel
theorem dX9_takeOn_5 : decode cX9_takeOn 5 = .ok (.putfield 15, 3) := by decide +kernel
theorem dX9_takeOn_8 : decode cX9_takeOn 8 = .ok (.iconst 0, 1) := by decide +kernel
theorem dX9_takeOn_9 : decode cX9_takeOn 9 = .ok (.istore_n 3, 1) := by decide +kernel
theorem dX9_takeOn_10 : decode cX9_takeOn 10 = .ok (.iload_n 3, 1) := by decide +kernel
theorem dX9_takeOn_11 : decode cX9_takeOn 11 = .ok (.aload_n 0, 1) := by decide +kernel
theorem dX9_takeOn_12 : decode cX9_takeOn 12 = .ok (.getfield 15, 3) := by decide +kernel
theorem dX9_takeOn_15 : decode cX9_takeOn 15 = .ok (.if_icmp .gt 78, 3) := by decide +kernel
theorem dX9_takeOn_18 : decode cX9_takeOn 18 = .ok (.iconst 0, 1) := by decide +kernel
theorem dX9_takeOn_19 : decode cX9_takeOn 19 = .ok (.istore 4, 2) := by decide +kernel
theorem dX9_takeOn_21 : decode cX9_takeOn 21 = .ok (.iload 4, 2) := by decide +kernel
theorem dX9_takeOn_23 : decode cX9_takeOn 23 = .ok (.iload_n 3, 1) := by decide +kernel
theorem dX9_takeOn_24 : decode cX9_takeOn 24 = .ok (.if_icmp .gt 63, 3) := by decide +kernel
theorem dX9_takeOn_27 : decode cX9_takeOn 27 = .ok (.aload_n 0, 1) := by decide +kernel
theorem dX9_takeOn_28 : decode cX9_takeOn 28 = .ok (.getfield 15, 3) := by decide +kernel
theorem dX9_takeOn_31 : decode cX9_takeOn 31 = .ok (.iload_n 3, 1) := by decide +kernel
theorem dX9_takeOn_32 : decode cX9_takeOn 32 = .ok (.isub, 1) := by decide +kernel
theorem dX9_takeOn_33 : decode cX9_takeOn 33 = .ok (.istore 5, 2) := by decide +kernel
theorem dX9_takeOn_35 : decode cX9_takeOn 35 = .ok (.iload_n 3, 1) := by decide +kernel
theorem dX9_takeOn_36 : decode cX9_takeOn 36 = .ok (.iload 4, 2) := by decide +kernel
theorem dX9_takeOn_38 : decode cX9_takeOn 38 = .ok (.isub, 1) := by decide +kernel
theorem dX9_takeOn_39 : decode cX9_takeOn 39 = .ok (.istore 6, 2) := by decide +kernel
theorem dX9_takeOn_41 : decode cX9_takeOn 41 = .ok (.aload_n 0, 1) := by decide +kernel
theorem dX9_takeOn_42 : decode cX9_takeOn 42 = .ok (.getfield 9, 3) := by decide +kernel
theorem dX9_takeOn_45 : decode cX9_takeOn 45 = .ok (.iload 6, 2) := by decide +kernel
theorem dX9_takeOn_47 : decode cX9_takeOn 47 = .ok (.iload 4, 2) := by decide +kernel
theorem dX9_takeOn_49 : decode cX9_takeOn 49 = .ok (.invokestatic 26, 3) := by decide +kernel
theorem dX9_takeOn_52 : decode cX9_takeOn 52 = .ok (.iload_n 2, 1) := by decide +kernel
theorem dX9_takeOn_53 : decode cX9_takeOn 53 = .ok (.iload 5, 2) := by decide +kernel
theorem dX9_takeOn_55 : decode cX9_takeOn 55 = .ok (.iload 6, 2) := by decide +kernel
theorem dX9_takeOn_57 : decode cX9_takeOn 57 = .ok (.iload 4, 2) := by decide +kernel
theorem dX9_takeOn_59 : decode cX9_takeOn 59 = .ok (.invokestatic 30, 3) := by decide +kernel
theorem dX9_takeOn_62 : decode cX9_takeOn 62 = .ok (.ifCond .eq 17, 3) := by decide +kernel
theorem dX9_takeOn_65 : decode cX9_takeOn 65 = .ok (.aload_n 1, 1) := by decide +kernel
theorem dX9_takeOn_66 : decode cX9_takeOn 66 = .ok (.iload 5, 2) := by decide +kernel
theorem dX9_takeOn_68 : decode cX9_takeOn 68 = .ok (.iload 6, 2) := by decide +kernel
theorem dX9_takeOn_70 : decode cX9_takeOn 70 = .ok (.iload 4, 2) := by decide +kernel
theorem dX9_takeOn_72 : decode cX9_takeOn 72 = .ok (.invokevirtual 34, 3) := by decide +kernel
theorem dX9_takeOn_75 : decode cX9_takeOn 75 = .ok (.i2l, 1) := by decide +kernel
theorem dX9_takeOn_76 : decode cX9_takeOn 76 = .ok (.goto 4, 3) := by decide +kernel
theorem dX9_takeOn_79 : decode cX9_takeOn 79 = .ok (.lconst 0, 1) := by decide +kernel
theorem dX9_takeOn_80 : decode cX9_takeOn 80 = .ok (.lastore, 1) := by decide +kernel
theorem dX9_takeOn_81 : decode cX9_takeOn 81 = .ok (.iinc 4 1, 3) := by decide +kernel
theorem dX9_takeOn_84 : decode cX9_takeOn 84 = .ok (.goto (-63), 3) := by decide +kernel
theorem dX9_takeOn_87 : decode cX9_takeOn 87 = .ok (.iinc 3 1, 3) := by decide +kernel
theorem dX9_takeOn_90 : decode cX9_takeOn 90 = .ok (.goto (-80), 3) := by decide +kernel
theorem dX9_takeOn_93 : decode cX9_takeOn 93 = .ok (.return_, 1) := by decide +kernel
theorem dX6_settle_0 : decode cX6_settle 0 = .ok (.aload_n 0, 1) := by decide +kernel
theorem dX6_settle_1 : decode cX6_settle 1 = .ok (.invokevirtual 146, 3) := by decide +kernel
theorem dX6_settle_4 : decode cX6_settle 4 = .ok (.ifCond .ne 15, 3) := by decide +kernel
theorem dX6_settle_7 : decode cX6_settle 7 = .ok (.aload_n 0, 1) := by decide +kernel
theorem dX6_settle_8 : decode cX6_settle 8 = .ok (.getfield 23, 3) := by decide +kernel
theorem dX6_settle_11 : decode cX6_settle 11 = .ok (.getfield 117, 3) := by decide +kernel
theorem dX6_settle_14 : decode cX6_settle 14 = .ok (.bipush 6, 2) := by decide +kernel
theorem dX6_settle_16 : decode cX6_settle 16 = .ok (.if_icmp .le 5, 3) := by decide +kernel
theorem dX6_settle_19 : decode cX6_settle 19 = .ok (.iconst 0, 1) := by decide +kernel
theorem dX6_settle_20 : decode cX6_settle 20 = .ok (.ireturn, 1) := by decide +kernel
theorem dX6_settle_21 : decode cX6_settle 21 = .ok (.aload_n 0, 1) := by decide +kernel
theorem dX6_settle_22 : decode cX6_settle 22 = .ok (.getfield 23, 3) := by decide +kernel
theorem dX6_settle_25 : decode cX6_settle 25 = .ok (.getfield 117, 3) := by decide +kernel
theorem dX6_settle_28 : decode cX6_settle 28 = .ok (.invokestatic 46, 3) := by decide +kernel
theorem dX6_settle_31 : decode cX6_settle 31 = .ok (.istore_n 1, 1) := by decide +kernel
theorem dX6_settle_32 : decode cX6_settle 32 = .ok (.iconst 0, 1) := by decide +kernel
theorem dX6_settle_33 : decode cX6_settle 33 = .ok (.istore_n 2, 1) := by decide +kernel
theorem dX6_settle_34 : decode cX6_settle 34 = .ok (.iload_n 2, 1) := by decide +kernel
theorem dX6_settle_35 : decode cX6_settle 35 = .ok (.iload_n 1, 1) := by decide +kernel
theorem dX6_settle_36 : decode cX6_settle 36 = .ok (.if_icmp .ge 43, 3) := by decide +kernel
theorem dX6_settle_39 : decode cX6_settle 39 = .ok (.aload_n 0, 1) := by decide +kernel
theorem dX6_settle_40 : decode cX6_settle 40 = .ok (.getfield 23, 3) := by decide +kernel
theorem dX6_settle_43 : decode cX6_settle 43 = .ok (.getfield 118, 3) := by decide +kernel
theorem dX6_settle_46 : decode cX6_settle 46 = .ok (.iload_n 2, 1) := by decide +kernel
theorem dX6_settle_47 : decode cX6_settle 47 = .ok (.laload, 1) := by decide +kernel
theorem dX6_settle_48 : decode cX6_settle 48 = .ok (.ldc2_w 149, 3) := by decide +kernel
theorem dX6_settle_51 : decode cX6_settle 51 = .ok (.lcmp, 1) := by decide +kernel
theorem dX6_settle_52 : decode cX6_settle 52 = .ok (.ifCond .lt 19, 3) := by decide +kernel
theorem dX6_settle_55 : decode cX6_settle 55 = .ok (.aload_n 0, 1) := by decide +kernel
theorem dX6_settle_56 : decode cX6_settle 56 = .ok (.getfield 23, 3) := by decide +kernel
theorem dX6_settle_59 : decode cX6_settle 59 = .ok (.getfield 118, 3) := by decide +kernel
theorem dX6_settle_62 : decode cX6_settle 62 = .ok (.iload_n 2, 1) := by decide +kernel
theorem dX6_settle_63 : decode cX6_settle 63 = .ok (.laload, 1) := by decide +kernel
theorem dX6_settle_64 : decode cX6_settle 64 = .ok (.ldc2_w 151, 3) := by decide +kernel
theorem dX6_settle_67 : decode cX6_settle 67 = .ok (.lcmp, 1) := by decide +kernel
theorem dX6_settle_68 : decode cX6_settle 68 = .ok (.ifCond .le 5, 3) := by decide +kernel
theorem dX6_settle_71 : decode cX6_settle 71 = .ok (.iconst 0, 1) := by decide +kernel
theorem dX6_settle_72 : decode cX6_settle 72 = .ok (.ireturn, 1) := by decide +kernel
theorem dX6_settle_73 : decode cX6_settle 73 = .ok (.iinc 2 1, 3) := by decide +kernel
theorem dX6_settle_76 : decode cX6_settle 76 = .ok (.goto (-42), 3) := by decide +kernel
theorem dX6_settle_79 : decode cX6_settle 79 = .ok (.aload_n 0, 1) := by decide +kernel
theorem dX6_settle_80 : decode cX6_settle 80 = .ok (.getfield 11, 3) := by decide +kernel
theorem dX6_settle_83 : decode cX6_settle 83 = .ok (.aload_n 0, 1) := by decide +kernel
theorem dX6_settle_84 : decode cX6_settle 84 = .ok (.getfield 32, 3) := by decide +kernel
theorem dX6_settle_87 : decode cX6_settle 87 = .ok (.aaload, 1) := by decide +kernel
theorem dX6_settle_88 : decode cX6_settle 88 = .ok (.astore_n 2, 1) := by decide +kernel
theorem dX6_settle_89 : decode cX6_settle 89 = .ok (.aload_n 2, 1) := by decide +kernel
theorem dX6_settle_90 : decode cX6_settle 90 = .ok (.invokevirtual 153, 3) := by decide +kernel
theorem dX6_settle_93 : decode cX6_settle 93 = .ok (.aload_n 2, 1) := by decide +kernel
theorem dX6_settle_94 : decode cX6_settle 94 = .ok (.aload_n 0, 1) := by decide +kernel
theorem dX6_settle_95 : decode cX6_settle 95 = .ok (.getfield 23, 3) := by decide +kernel
theorem dX6_settle_98 : decode cX6_settle 98 = .ok (.getfield 117, 3) := by decide +kernel
theorem dX6_settle_101 : decode cX6_settle 101 = .ok (.putfield 43, 3) := by decide +kernel
theorem dX6_settle_104 : decode cX6_settle 104 = .ok (.iconst 0, 1) := by decide +kernel
theorem dX6_settle_105 : decode cX6_settle 105 = .ok (.istore_n 3, 1) := by decide +kernel
theorem dX6_settle_106 : decode cX6_settle 106 = .ok (.iload_n 3, 1) := by decide +kernel
theorem dX6_settle_107 : decode cX6_settle 107 = .ok (.iload_n 1, 1) := by decide +kernel
theorem dX6_settle_108 : decode cX6_settle 108 = .ok (.if_icmp .ge 25, 3) := by decide +kernel
theorem dX6_settle_111 : decode cX6_settle 111 = .ok (.aload_n 2, 1) := by decide +kernel
theorem dX6_settle_112 : decode cX6_settle 112 = .ok (.getfield 155, 3) := by decide +kernel
theorem dX6_settle_115 : decode cX6_settle 115 = .ok (.iload_n 3, 1) := by decide +kernel
theorem dX6_settle_116 : decode cX6_settle 116 = .ok (.aload_n 0, 1) := by decide +kernel
theorem dX6_settle_117 : decode cX6_settle 117 = .ok (.getfield 23, 3) := by decide +kernel
theorem dX6_settle_120 : decode cX6_settle 120 = .ok (.getfield 118, 3) := by decide +kernel
theorem dX6_settle_123 : decode cX6_settle 123 = .ok (.iload_n 3, 1) := by decide +kernel
theorem dX6_settle_124 : decode cX6_settle 124 = .ok (.laload, 1) := by decide +kernel
theorem dX6_settle_125 : decode cX6_settle 125 = .ok (.l2i, 1) := by decide +kernel
theorem dX6_settle_126 : decode cX6_settle 126 = .ok (.iastore, 1) := by decide +kernel
theorem dX6_settle_127 : decode cX6_settle 127 = .ok (.iinc 3 1, 3) := by decide +kernel
theorem dX6_settle_130 : decode cX6_settle 130 = .ok (.goto (-24), 3) := by decide +kernel
theorem dX6_settle_133 : decode cX6_settle 133 = .ok (.aload_n 0, 1) := by decide +kernel
theorem dX6_settle_134 : decode cX6_settle 134 = .ok (.dup, 1) := by decide +kernel
theorem dX6_settle_135 : decode cX6_settle 135 = .ok (.getfield 32, 3) := by decide +kernel
theorem dX6_settle_138 : decode cX6_settle 138 = .ok (.iconst 1, 1) := by decide +kernel
theorem dX6_settle_139 : decode cX6_settle 139 = .ok (.iadd, 1) := by decide +kernel
theorem dX6_settle_140 : decode cX6_settle 140 = .ok (.putfield 32, 3) := by decide +kernel
theorem dX6_settle_143 : decode cX6_settle 143 = .ok (.iconst 1, 1) := by decide +kernel
theorem dX6_settle_144 : decode cX6_settle 144 = .ok (.ireturn, 1) := by decide +kernel
theorem dX6_bringSum_0 : decode cX6_bringSum 0 = .ok (.aload_n 0, 1) := by decide +kernel
theorem dX6_bringSum_1 : decode cX6_bringSum 1 = .ok (.getfield 11, 3) := by decide +kernel
theorem dX6_bringSum_4 : decode cX6_bringSum 4 = .ok (.iload_n 1, 1) := by decide +kernel
theorem dX6_bringSum_5 : decode cX6_bringSum 5 = .ok (.aaload, 1) := by decide +kernel
theorem dX6_bringSum_6 : decode cX6_bringSum 6 = .ok (.getfield 43, 3) := by decide +kernel
theorem dX6_bringSum_9 : decode cX6_bringSum 9 = .ok (.aload_n 0, 1) := by decide +kernel
theorem dX6_bringSum_10 : decode cX6_bringSum 10 = .ok (.getfield 11, 3) := by decide +kernel
theorem dX6_bringSum_13 : decode cX6_bringSum 13 = .ok (.iload_n 2, 1) := by decide +kernel
theorem dX6_bringSum_14 : decode cX6_bringSum 14 = .ok (.aaload, 1) := by decide +kernel
theorem dX6_bringSum_15 : decode cX6_bringSum 15 = .ok (.getfield 43, 3) := by decide +kernel
theorem dX6_bringSum_18 : decode cX6_bringSum 18 = .ok (.if_icmp .eq 5, 3) := by decide +kernel
theorem dX6_bringSum_21 : decode cX6_bringSum 21 = .ok (.iconst 0, 1) := by decide +kernel
theorem dX6_bringSum_22 : decode cX6_bringSum 22 = .ok (.ireturn, 1) := by decide +kernel
theorem dX6_bringSum_23 : decode cX6_bringSum 23 = .ok (.aload_n 0, 1) := by decide +kernel
theorem dX6_bringSum_24 : decode cX6_bringSum 24 = .ok (.getfield 23, 3) := by decide +kernel
theorem dX6_bringSum_27 : decode cX6_bringSum 27 = .ok (.aload_n 0, 1) := by decide +kernel
theorem dX6_bringSum_28 : decode cX6_bringSum 28 = .ok (.getfield 11, 3) := by decide +kernel
theorem dX6_bringSum_31 : decode cX6_bringSum 31 = .ok (.iload_n 1, 1) := by decide +kernel
theorem dX6_bringSum_32 : decode cX6_bringSum 32 = .ok (.aaload, 1) := by decide +kernel
theorem dX6_bringSum_33 : decode cX6_bringSum 33 = .ok (.bipush 7, 2) := by decide +kernel
theorem dX6_bringSum_35 : decode cX6_bringSum 35 = .ok (.invokevirtual 113, 3) := by decide +kernel
theorem dX6_bringSum_38 : decode cX6_bringSum 38 = .ok (.iconst 0, 1) := by decide +kernel
theorem dX6_bringSum_39 : decode cX6_bringSum 39 = .ok (.istore_n 3, 1) := by decide +kernel
theorem dX6_bringSum_40 : decode cX6_bringSum 40 = .ok (.iload_n 3, 1) := by decide +kernel
theorem dX6_bringSum_41 : decode cX6_bringSum 41 = .ok (.aload_n 0, 1) := by decide +kernel
theorem dX6_bringSum_42 : decode cX6_bringSum 42 = .ok (.getfield 23, 3) := by decide +kernel
theorem dX6_bringSum_45 : decode cX6_bringSum 45 = .ok (.getfield 117, 3) := by decide +kernel
theorem dX6_bringSum_48 : decode cX6_bringSum 48 = .ok (.invokestatic 46, 3) := by decide +kernel
theorem dX6_bringSum_51 : decode cX6_bringSum 51 = .ok (.if_icmp .ge 32, 3) := by decide +kernel
theorem dX6_bringSum_54 : decode cX6_bringSum 54 = .ok (.aload_n 0, 1) := by decide +kernel
theorem dX6_bringSum_55 : decode cX6_bringSum 55 = .ok (.getfield 23, 3) := by decide +kernel
theorem dX6_bringSum_58 : decode cX6_bringSum 58 = .ok (.getfield 118, 3) := by decide +kernel
theorem dX6_bringSum_61 : decode cX6_bringSum 61 = .ok (.iload_n 3, 1) := by decide +kernel
theorem dX6_bringSum_62 : decode cX6_bringSum 62 = .ok (.dup2, 1) := by decide +kernel
theorem dX6_bringSum_63 : decode cX6_bringSum 63 = .ok (.laload, 1) := by decide +kernel
theorem dX6_bringSum_64 : decode cX6_bringSum 64 = .ok (.aload_n 0, 1) := by decide +kernel
theorem dX6_bringSum_65 : decode cX6_bringSum 65 = .ok (.getfield 11, 3) := by decide +kernel
theorem dX6_bringSum_68 : decode cX6_bringSum 68 = .ok (.iload_n 2, 1) := by decide +kernel
theorem dX6_bringSum_69 : decode cX6_bringSum 69 = .ok (.aaload, 1) := by decide +kernel
theorem dX6_bringSum_70 : decode cX6_bringSum 70 = .ok (.iload_n 3, 1) := by decide +kernel
theorem dX6_bringSum_71 : decode cX6_bringSum 71 = .ok (.invokevirtual 63, 3) := by decide +kernel
theorem dX6_bringSum_74 : decode cX6_bringSum 74 = .ok (.i2l, 1) := by decide +kernel
theorem dX6_bringSum_75 : decode cX6_bringSum 75 = .ok (.ladd, 1) := by decide +kernel
theorem dX6_bringSum_76 : decode cX6_bringSum 76 = .ok (.lastore, 1) := by decide +kernel
theorem dX6_bringSum_77 : decode cX6_bringSum 77 = .ok (.iinc 3 1, 3) := by decide +kernel
theorem dX6_bringSum_80 : decode cX6_bringSum 80 = .ok (.goto (-40), 3) := by decide +kernel
theorem dX6_bringSum_83 : decode cX6_bringSum 83 = .ok (.aload_n 0, 1) := by decide +kernel
theorem dX6_bringSum_84 : decode cX6_bringSum 84 = .ok (.invokevirtual 122, 3) := by decide +kernel
theorem dX6_bringSum_87 : decode cX6_bringSum 87 = .ok (.ireturn, 1) := by decide +kernel
theorem dX9_makeNought_0 : decode cX9_makeNought 0 = .ok (.aload_n 0, 1) := by decide +kernel
theorem dX9_makeNought_1 : decode cX9_makeNought 1 = .ok (.iload_n 1, 1) := by decide +kernel
theorem dX9_makeNought_2 : decode cX9_makeNought 2 = .ok (.putfield 15, 3) := by decide +kernel
theorem dX9_makeNought_5 : decode cX9_makeNought 5 = .ok (.iconst 0, 1) := by decide +kernel
theorem dX9_makeNought_6 : decode cX9_makeNought 6 = .ok (.istore_n 2, 1) := by decide +kernel
theorem dX9_makeNought_7 : decode cX9_makeNought 7 = .ok (.iload_n 2, 1) := by decide +kernel
theorem dX9_makeNought_8 : decode cX9_makeNought 8 = .ok (.aload_n 0, 1) := by decide +kernel
theorem dX9_makeNought_9 : decode cX9_makeNought 9 = .ok (.getfield 15, 3) := by decide +kernel
theorem dX9_makeNought_12 : decode cX9_makeNought 12 = .ok (.invokestatic 19, 3) := by decide +kernel
theorem dX9_makeNought_15 : decode cX9_makeNought 15 = .ok (.if_icmp .ge 16, 3) := by decide +kernel
theorem dX9_makeNought_18 : decode cX9_makeNought 18 = .ok (.aload_n 0, 1) := by decide +kernel
theorem dX9_makeNought_19 : decode cX9_makeNought 19 = .ok (.getfield 9, 3) := by decide +kernel
theorem dX9_makeNought_22 : decode cX9_makeNought 22 = .ok (.iload_n 2, 1) := by decide +kernel
theorem dX9_makeNought_23 : decode cX9_makeNought 23 = .ok (.lconst 0, 1) := by decide +kernel
theorem dX9_makeNought_24 : decode cX9_makeNought 24 = .ok (.lastore, 1) := by decide +kernel
theorem dX9_makeNought_25 : decode cX9_makeNought 25 = .ok (.iinc 2 1, 3) := by decide +kernel
theorem dX9_makeNought_28 : decode cX9_makeNought 28 = .ok (.goto (-21), 3) := by decide +kernel
theorem dX9_makeNought_31 : decode cX9_makeNought 31 = .ok (.return_, 1) := by decide +kernel
theorem dX6_addTimes_0 : decode cX6_addTimes 0 = .ok (.lload_n 1, 1) := by decide +kernel
theorem dX6_addTimes_1 : decode cX6_addTimes 1 = .ok (.lconst 0, 1) := by decide +kernel
theorem dX6_addTimes_2 : decode cX6_addTimes 2 = .ok (.lcmp, 1) := by decide +kernel
theorem dX6_addTimes_3 : decode cX6_addTimes 3 = .ok (.ifCond .ne 4, 3) := by decide +kernel
theorem dX6_addTimes_6 : decode cX6_addTimes 6 = .ok (.return_, 1) := by decide +kernel
theorem dX6_addTimes_7 : decode cX6_addTimes 7 = .ok (.iconst 0, 1) := by decide +kernel
theorem dX6_addTimes_8 : decode cX6_addTimes 8 = .ok (.istore 6, 2) := by decide +kernel
theorem dX6_addTimes_10 : decode cX6_addTimes 10 = .ok (.iload 6, 2) := by decide +kernel
theorem dX6_addTimes_12 : decode cX6_addTimes 12 = .ok (.aload 5, 2) := by decide +kernel
theorem dX6_addTimes_14 : decode cX6_addTimes 14 = .ok (.getfield 43, 3) := by decide +kernel
theorem dX6_addTimes_17 : decode cX6_addTimes 17 = .ok (.if_icmp .gt 74, 3) := by decide +kernel
theorem dX6_addTimes_20 : decode cX6_addTimes 20 = .ok (.iconst 0, 1) := by decide +kernel
theorem dX6_addTimes_21 : decode cX6_addTimes 21 = .ok (.istore 7, 2) := by decide +kernel
theorem dX6_addTimes_23 : decode cX6_addTimes 23 = .ok (.iload 7, 2) := by decide +kernel
theorem dX6_addTimes_25 : decode cX6_addTimes 25 = .ok (.iload 6, 2) := by decide +kernel
theorem dX6_addTimes_27 : decode cX6_addTimes 27 = .ok (.if_icmp .gt 58, 3) := by decide +kernel
theorem dX6_addTimes_30 : decode cX6_addTimes 30 = .ok (.aload_n 0, 1) := by decide +kernel
theorem dX6_addTimes_31 : decode cX6_addTimes 31 = .ok (.getfield 23, 3) := by decide +kernel
theorem dX6_addTimes_34 : decode cX6_addTimes 34 = .ok (.getfield 118, 3) := by decide +kernel
theorem dX6_addTimes_37 : decode cX6_addTimes 37 = .ok (.iload_n 3, 1) := by decide +kernel
theorem dX6_addTimes_38 : decode cX6_addTimes 38 = .ok (.iload 6, 2) := by decide +kernel
theorem dX6_addTimes_40 : decode cX6_addTimes 40 = .ok (.iadd, 1) := by decide +kernel
theorem dX6_addTimes_41 : decode cX6_addTimes 41 = .ok (.iload 7, 2) := by decide +kernel
theorem dX6_addTimes_43 : decode cX6_addTimes 43 = .ok (.isub, 1) := by decide +kernel
theorem dX6_addTimes_44 : decode cX6_addTimes 44 = .ok (.iload 4, 2) := by decide +kernel
theorem dX6_addTimes_46 : decode cX6_addTimes 46 = .ok (.iload 7, 2) := by decide +kernel
theorem dX6_addTimes_48 : decode cX6_addTimes 48 = .ok (.iadd, 1) := by decide +kernel
theorem dX6_addTimes_49 : decode cX6_addTimes 49 = .ok (.invokestatic 138, 3) := by decide +kernel
theorem dX6_addTimes_52 : decode cX6_addTimes 52 = .ok (.dup2, 1) := by decide +kernel
theorem dX6_addTimes_53 : decode cX6_addTimes 53 = .ok (.laload, 1) := by decide +kernel
theorem dX6_addTimes_54 : decode cX6_addTimes 54 = .ok (.lload_n 1, 1) := by decide +kernel
theorem dX6_addTimes_55 : decode cX6_addTimes 55 = .ok (.aload 5, 2) := by decide +kernel
theorem dX6_addTimes_57 : decode cX6_addTimes 57 = .ok (.aload 5, 2) := by decide +kernel
theorem dX6_addTimes_59 : decode cX6_addTimes 59 = .ok (.getfield 43, 3) := by decide +kernel
theorem dX6_addTimes_62 : decode cX6_addTimes 62 = .ok (.iload 6, 2) := by decide +kernel
theorem dX6_addTimes_64 : decode cX6_addTimes 64 = .ok (.isub, 1) := by decide +kernel
theorem dX6_addTimes_65 : decode cX6_addTimes 65 = .ok (.iload 6, 2) := by decide +kernel
theorem dX6_addTimes_67 : decode cX6_addTimes 67 = .ok (.iload 7, 2) := by decide +kernel
theorem dX6_addTimes_69 : decode cX6_addTimes 69 = .ok (.isub, 1) := by decide +kernel
theorem dX6_addTimes_70 : decode cX6_addTimes 70 = .ok (.iload 7, 2) := by decide +kernel
theorem dX6_addTimes_72 : decode cX6_addTimes 72 = .ok (.invokevirtual 130, 3) := by decide +kernel
theorem dX6_addTimes_75 : decode cX6_addTimes 75 = .ok (.i2l, 1) := by decide +kernel
theorem dX6_addTimes_76 : decode cX6_addTimes 76 = .ok (.lmul, 1) := by decide +kernel
theorem dX6_addTimes_77 : decode cX6_addTimes 77 = .ok (.ladd, 1) := by decide +kernel
theorem dX6_addTimes_78 : decode cX6_addTimes 78 = .ok (.lastore, 1) := by decide +kernel
theorem dX6_addTimes_79 : decode cX6_addTimes 79 = .ok (.iinc 7 1, 3) := by decide +kernel
theorem dX6_addTimes_82 : decode cX6_addTimes 82 = .ok (.goto (-59), 3) := by decide +kernel
theorem dX6_addTimes_85 : decode cX6_addTimes 85 = .ok (.iinc 6 1, 3) := by decide +kernel
theorem dX6_addTimes_88 : decode cX6_addTimes 88 = .ok (.goto (-78), 3) := by decide +kernel
theorem dX6_addTimes_91 : decode cX6_addTimes 91 = .ok (.return_, 1) := by decide +kernel
theorem dX6_bringProduct_0 : decode cX6_bringProduct 0 = .ok (.aload_n 0, 1) := by decide +kernel
theorem dX6_bringProduct_1 : decode cX6_bringProduct 1 = .ok (.getfield 11, 3) := by decide +kernel
theorem dX6_bringProduct_4 : decode cX6_bringProduct 4 = .ok (.iload_n 1, 1) := by decide +kernel
theorem dX6_bringProduct_5 : decode cX6_bringProduct 5 = .ok (.aaload, 1) := by decide +kernel
theorem dX6_bringProduct_6 : decode cX6_bringProduct 6 = .ok (.astore_n 3, 1) := by decide +kernel
theorem dX6_bringProduct_7 : decode cX6_bringProduct 7 = .ok (.aload_n 0, 1) := by decide +kernel
theorem dX6_bringProduct_8 : decode cX6_bringProduct 8 = .ok (.getfield 11, 3) := by decide +kernel
theorem dX6_bringProduct_11 : decode cX6_bringProduct 11 = .ok (.iload_n 2, 1) := by decide +kernel
theorem dX6_bringProduct_12 : decode cX6_bringProduct 12 = .ok (.aaload, 1) := by decide +kernel
theorem dX6_bringProduct_13 : decode cX6_bringProduct 13 = .ok (.astore 4, 2) := by decide +kernel
theorem dX6_bringProduct_15 : decode cX6_bringProduct 15 = .ok (.aload_n 0, 1) := by decide +kernel
theorem dX6_bringProduct_16 : decode cX6_bringProduct 16 = .ok (.getfield 23, 3) := by decide +kernel
theorem dX6_bringProduct_19 : decode cX6_bringProduct 19 = .ok (.aload_n 3, 1) := by decide +kernel
theorem dX6_bringProduct_20 : decode cX6_bringProduct 20 = .ok (.getfield 43, 3) := by decide +kernel
theorem dX6_bringProduct_23 : decode cX6_bringProduct 23 = .ok (.aload 4, 2) := by decide +kernel
theorem dX6_bringProduct_25 : decode cX6_bringProduct 25 = .ok (.getfield 43, 3) := by decide +kernel
theorem dX6_bringProduct_28 : decode cX6_bringProduct 28 = .ok (.iadd, 1) := by decide +kernel
theorem dX6_bringProduct_29 : decode cX6_bringProduct 29 = .ok (.invokevirtual 126, 3) := by decide +kernel
theorem dX6_bringProduct_32 : decode cX6_bringProduct 32 = .ok (.iconst 0, 1) := by decide +kernel
theorem dX6_bringProduct_33 : decode cX6_bringProduct 33 = .ok (.istore 5, 2) := by decide +kernel
theorem dX6_bringProduct_35 : decode cX6_bringProduct 35 = .ok (.iload 5, 2) := by decide +kernel
theorem dX6_bringProduct_37 : decode cX6_bringProduct 37 = .ok (.aload_n 3, 1) := by decide +kernel
theorem dX6_bringProduct_38 : decode cX6_bringProduct 38 = .ok (.getfield 43, 3) := by decide +kernel
theorem dX6_bringProduct_41 : decode cX6_bringProduct 41 = .ok (.if_icmp .gt 57, 3) := by decide +kernel
theorem dX6_bringProduct_44 : decode cX6_bringProduct 44 = .ok (.iconst 0, 1) := by decide +kernel
theorem dX6_bringProduct_45 : decode cX6_bringProduct 45 = .ok (.istore 6, 2) := by decide +kernel
theorem dX6_bringProduct_47 : decode cX6_bringProduct 47 = .ok (.iload 6, 2) := by decide +kernel
theorem dX6_bringProduct_49 : decode cX6_bringProduct 49 = .ok (.iload 5, 2) := by decide +kernel
theorem dX6_bringProduct_51 : decode cX6_bringProduct 51 = .ok (.if_icmp .gt 41, 3) := by decide +kernel
theorem dX6_bringProduct_54 : decode cX6_bringProduct 54 = .ok (.aload_n 0, 1) := by decide +kernel
theorem dX6_bringProduct_55 : decode cX6_bringProduct 55 = .ok (.aload_n 3, 1) := by decide +kernel
theorem dX6_bringProduct_56 : decode cX6_bringProduct 56 = .ok (.aload_n 3, 1) := by decide +kernel
theorem dX6_bringProduct_57 : decode cX6_bringProduct 57 = .ok (.getfield 43, 3) := by decide +kernel
theorem dX6_bringProduct_60 : decode cX6_bringProduct 60 = .ok (.iload 5, 2) := by decide +kernel
theorem dX6_bringProduct_62 : decode cX6_bringProduct 62 = .ok (.isub, 1) := by decide +kernel
theorem dX6_bringProduct_63 : decode cX6_bringProduct 63 = .ok (.iload 5, 2) := by decide +kernel
theorem dX6_bringProduct_65 : decode cX6_bringProduct 65 = .ok (.iload 6, 2) := by decide +kernel
theorem dX6_bringProduct_67 : decode cX6_bringProduct 67 = .ok (.isub, 1) := by decide +kernel
theorem dX6_bringProduct_68 : decode cX6_bringProduct 68 = .ok (.iload 6, 2) := by decide +kernel
theorem dX6_bringProduct_70 : decode cX6_bringProduct 70 = .ok (.invokevirtual 130, 3) := by decide +kernel
theorem dX6_bringProduct_73 : decode cX6_bringProduct 73 = .ok (.i2l, 1) := by decide +kernel
theorem dX6_bringProduct_74 : decode cX6_bringProduct 74 = .ok (.iload 5, 2) := by decide +kernel
theorem dX6_bringProduct_76 : decode cX6_bringProduct 76 = .ok (.iload 6, 2) := by decide +kernel
theorem dX6_bringProduct_78 : decode cX6_bringProduct 78 = .ok (.isub, 1) := by decide +kernel
theorem dX6_bringProduct_79 : decode cX6_bringProduct 79 = .ok (.iload 6, 2) := by decide +kernel
theorem dX6_bringProduct_81 : decode cX6_bringProduct 81 = .ok (.aload 4, 2) := by decide +kernel
theorem dX6_bringProduct_83 : decode cX6_bringProduct 83 = .ok (.invokevirtual 134, 3) := by decide +kernel
theorem dX6_bringProduct_86 : decode cX6_bringProduct 86 = .ok (.iinc 6 1, 3) := by decide +kernel
theorem dX6_bringProduct_89 : decode cX6_bringProduct 89 = .ok (.goto (-42), 3) := by decide +kernel
theorem dX6_bringProduct_92 : decode cX6_bringProduct 92 = .ok (.iinc 5 1, 3) := by decide +kernel
theorem dX6_bringProduct_95 : decode cX6_bringProduct 95 = .ok (.goto (-60), 3) := by decide +kernel
theorem dX6_bringProduct_98 : decode cX6_bringProduct 98 = .ok (.aload_n 0, 1) := by decide +kernel
theorem dX6_bringProduct_99 : decode cX6_bringProduct 99 = .ok (.invokevirtual 122, 3) := by decide +kernel
theorem dX6_bringProduct_102 : decode cX6_bringProduct 102 = .ok (.ireturn, 1) := by decide +kernel
theorem dX9_raiseOnce_0 : decode cX9_raiseOnce 0 = .ok (.aload_n 0, 1) := by decide +kernel
theorem dX9_raiseOnce_1 : decode cX9_raiseOnce 1 = .ok (.getfield 15, 3) := by decide +kernel
theorem dX9_raiseOnce_4 : decode cX9_raiseOnce 4 = .ok (.bipush 18, 2) := by decide +kernel
theorem dX9_raiseOnce_6 : decode cX9_raiseOnce 6 = .ok (.if_icmp .lt 4, 3) := by decide +kernel
theorem dX9_raiseOnce_9 : decode cX9_raiseOnce 9 = .ok (.return_, 1) := by decide +kernel
theorem dX9_raiseOnce_10 : decode cX9_raiseOnce 10 = .ok (.aload_n 0, 1) := by decide +kernel
theorem dX9_raiseOnce_11 : decode cX9_raiseOnce 11 = .ok (.dup, 1) := by decide +kernel
theorem dX9_raiseOnce_12 : decode cX9_raiseOnce 12 = .ok (.getfield 15, 3) := by decide +kernel
theorem dX9_raiseOnce_15 : decode cX9_raiseOnce 15 = .ok (.iconst 1, 1) := by decide +kernel
theorem dX9_raiseOnce_16 : decode cX9_raiseOnce 16 = .ok (.iadd, 1) := by decide +kernel
theorem dX9_raiseOnce_17 : decode cX9_raiseOnce 17 = .ok (.putfield 15, 3) := by decide +kernel
theorem dX9_raiseOnce_20 : decode cX9_raiseOnce 20 = .ok (.aload_n 0, 1) := by decide +kernel
theorem dX9_raiseOnce_21 : decode cX9_raiseOnce 21 = .ok (.getfield 15, 3) := by decide +kernel
theorem dX9_raiseOnce_24 : decode cX9_raiseOnce 24 = .ok (.istore_n 2, 1) := by decide +kernel
theorem dX9_raiseOnce_25 : decode cX9_raiseOnce 25 = .ok (.iload_n 2, 1) := by decide +kernel
theorem dX9_raiseOnce_26 : decode cX9_raiseOnce 26 = .ok (.ifCond .lt 129, 3) := by decide +kernel
theorem dX9_raiseOnce_29 : decode cX9_raiseOnce 29 = .ok (.iload_n 2, 1) := by decide +kernel
theorem dX9_raiseOnce_30 : decode cX9_raiseOnce 30 = .ok (.istore_n 3, 1) := by decide +kernel
theorem dX9_raiseOnce_31 : decode cX9_raiseOnce 31 = .ok (.iload_n 3, 1) := by decide +kernel
theorem dX9_raiseOnce_32 : decode cX9_raiseOnce 32 = .ok (.ifCond .lt 117, 3) := by decide +kernel
theorem dX9_raiseOnce_35 : decode cX9_raiseOnce 35 = .ok (.iload_n 2, 1) := by decide +kernel
theorem dX9_raiseOnce_36 : decode cX9_raiseOnce 36 = .ok (.iload_n 3, 1) := by decide +kernel
theorem dX9_raiseOnce_37 : decode cX9_raiseOnce 37 = .ok (.isub, 1) := by decide +kernel
theorem dX9_raiseOnce_38 : decode cX9_raiseOnce 38 = .ok (.istore 4, 2) := by decide +kernel
theorem dX9_raiseOnce_40 : decode cX9_raiseOnce 40 = .ok (.lconst 0, 1) := by decide +kernel
theorem dX9_raiseOnce_41 : decode cX9_raiseOnce 41 = .ok (.lstore 5, 2) := by decide +kernel
theorem dX9_raiseOnce_43 : decode cX9_raiseOnce 43 = .ok (.iload_n 1, 1) := by decide +kernel
theorem dX9_raiseOnce_44 : decode cX9_raiseOnce 44 = .ok (.iconst 1, 1) := by decide +kernel
theorem dX9_raiseOnce_45 : decode cX9_raiseOnce 45 = .ok (.iand, 1) := by decide +kernel
theorem dX9_raiseOnce_46 : decode cX9_raiseOnce 46 = .ok (.ifCond .eq 27, 3) := by decide +kernel
theorem dX9_raiseOnce_49 : decode cX9_raiseOnce 49 = .ok (.iload_n 2, 1) := by decide +kernel
theorem dX9_raiseOnce_50 : decode cX9_raiseOnce 50 = .ok (.aload_n 0, 1) := by decide +kernel
theorem dX9_raiseOnce_51 : decode cX9_raiseOnce 51 = .ok (.getfield 15, 3) := by decide +kernel
theorem dX9_raiseOnce_54 : decode cX9_raiseOnce 54 = .ok (.if_icmp .ge 19, 3) := by decide +kernel
theorem dX9_raiseOnce_57 : decode cX9_raiseOnce 57 = .ok (.lload 5, 2) := by decide +kernel
theorem dX9_raiseOnce_59 : decode cX9_raiseOnce 59 = .ok (.aload_n 0, 1) := by decide +kernel
theorem dX9_raiseOnce_60 : decode cX9_raiseOnce 60 = .ok (.getfield 9, 3) := by decide +kernel
theorem dX9_raiseOnce_63 : decode cX9_raiseOnce 63 = .ok (.iload 4, 2) := by decide +kernel
theorem dX9_raiseOnce_65 : decode cX9_raiseOnce 65 = .ok (.iload_n 3, 1) := by decide +kernel
theorem dX9_raiseOnce_66 : decode cX9_raiseOnce 66 = .ok (.invokestatic 26, 3) := by decide +kernel
theorem dX9_raiseOnce_69 : decode cX9_raiseOnce 69 = .ok (.laload, 1) := by decide +kernel
theorem dX9_raiseOnce_70 : decode cX9_raiseOnce 70 = .ok (.ladd, 1) := by decide +kernel
theorem dX9_raiseOnce_71 : decode cX9_raiseOnce 71 = .ok (.lstore 5, 2) := by decide +kernel
theorem dX9_raiseOnce_73 : decode cX9_raiseOnce 73 = .ok (.iload_n 1, 1) := by decide +kernel
theorem dX9_raiseOnce_74 : decode cX9_raiseOnce 74 = .ok (.iconst 2, 1) := by decide +kernel
theorem dX9_raiseOnce_75 : decode cX9_raiseOnce 75 = .ok (.iand, 1) := by decide +kernel
theorem dX9_raiseOnce_76 : decode cX9_raiseOnce 76 = .ok (.ifCond .eq 26, 3) := by decide +kernel
theorem dX9_raiseOnce_79 : decode cX9_raiseOnce 79 = .ok (.iload 4, 2) := by decide +kernel
theorem dX9_raiseOnce_81 : decode cX9_raiseOnce 81 = .ok (.ifCond .le 21, 3) := by decide +kernel
theorem dX9_raiseOnce_84 : decode cX9_raiseOnce 84 = .ok (.lload 5, 2) := by decide +kernel
theorem dX9_raiseOnce_86 : decode cX9_raiseOnce 86 = .ok (.aload_n 0, 1) := by decide +kernel
theorem dX9_raiseOnce_87 : decode cX9_raiseOnce 87 = .ok (.getfield 9, 3) := by decide +kernel
theorem dX9_raiseOnce_90 : decode cX9_raiseOnce 90 = .ok (.iload 4, 2) := by decide +kernel
theorem dX9_raiseOnce_92 : decode cX9_raiseOnce 92 = .ok (.iconst 1, 1) := by decide +kernel
theorem dX9_raiseOnce_93 : decode cX9_raiseOnce 93 = .ok (.isub, 1) := by decide +kernel
theorem dX9_raiseOnce_94 : decode cX9_raiseOnce 94 = .ok (.iload_n 3, 1) := by decide +kernel
theorem dX9_raiseOnce_95 : decode cX9_raiseOnce 95 = .ok (.invokestatic 26, 3) := by decide +kernel
theorem dX9_raiseOnce_98 : decode cX9_raiseOnce 98 = .ok (.laload, 1) := by decide +kernel
theorem dX9_raiseOnce_99 : decode cX9_raiseOnce 99 = .ok (.ladd, 1) := by decide +kernel
theorem dX9_raiseOnce_100 : decode cX9_raiseOnce 100 = .ok (.lstore 5, 2) := by decide +kernel
theorem dX9_raiseOnce_102 : decode cX9_raiseOnce 102 = .ok (.iload_n 1, 1) := by decide +kernel
theorem dX9_raiseOnce_103 : decode cX9_raiseOnce 103 = .ok (.iconst 4, 1) := by decide +kernel
theorem dX9_raiseOnce_104 : decode cX9_raiseOnce 104 = .ok (.iand, 1) := by decide +kernel
theorem dX9_raiseOnce_105 : decode cX9_raiseOnce 105 = .ok (.ifCond .eq 25, 3) := by decide +kernel
theorem dX9_raiseOnce_108 : decode cX9_raiseOnce 108 = .ok (.iload_n 3, 1) := by decide +kernel
theorem dX9_raiseOnce_109 : decode cX9_raiseOnce 109 = .ok (.ifCond .le 21, 3) := by decide +kernel
theorem dX9_raiseOnce_112 : decode cX9_raiseOnce 112 = .ok (.lload 5, 2) := by decide +kernel
theorem dX9_raiseOnce_114 : decode cX9_raiseOnce 114 = .ok (.aload_n 0, 1) := by decide +kernel
theorem dX9_raiseOnce_115 : decode cX9_raiseOnce 115 = .ok (.getfield 9, 3) := by decide +kernel
theorem dX9_raiseOnce_118 : decode cX9_raiseOnce 118 = .ok (.iload 4, 2) := by decide +kernel
theorem dX9_raiseOnce_120 : decode cX9_raiseOnce 120 = .ok (.iload_n 3, 1) := by decide +kernel
theorem dX9_raiseOnce_121 : decode cX9_raiseOnce 121 = .ok (.iconst 1, 1) := by decide +kernel
theorem dX9_raiseOnce_122 : decode cX9_raiseOnce 122 = .ok (.isub, 1) := by decide +kernel
theorem dX9_raiseOnce_123 : decode cX9_raiseOnce 123 = .ok (.invokestatic 26, 3) := by decide +kernel
theorem dX9_raiseOnce_126 : decode cX9_raiseOnce 126 = .ok (.laload, 1) := by decide +kernel
theorem dX9_raiseOnce_127 : decode cX9_raiseOnce 127 = .ok (.ladd, 1) := by decide +kernel
theorem dX9_raiseOnce_128 : decode cX9_raiseOnce 128 = .ok (.lstore 5, 2) := by decide +kernel
theorem dX9_raiseOnce_130 : decode cX9_raiseOnce 130 = .ok (.aload_n 0, 1) := by decide +kernel
theorem dX9_raiseOnce_131 : decode cX9_raiseOnce 131 = .ok (.getfield 9, 3) := by decide +kernel
theorem dX9_raiseOnce_134 : decode cX9_raiseOnce 134 = .ok (.iload 4, 2) := by decide +kernel
theorem dX9_raiseOnce_136 : decode cX9_raiseOnce 136 = .ok (.iload_n 3, 1) := by decide +kernel
theorem dX9_raiseOnce_137 : decode cX9_raiseOnce 137 = .ok (.invokestatic 26, 3) := by decide +kernel
theorem dX9_raiseOnce_140 : decode cX9_raiseOnce 140 = .ok (.lload 5, 2) := by decide +kernel
theorem dX9_raiseOnce_142 : decode cX9_raiseOnce 142 = .ok (.lastore, 1) := by decide +kernel
theorem dX9_raiseOnce_143 : decode cX9_raiseOnce 143 = .ok (.iinc 3 (-1), 3) := by decide +kernel
theorem dX9_raiseOnce_146 : decode cX9_raiseOnce 146 = .ok (.goto (-115), 3) := by decide +kernel
theorem dX9_raiseOnce_149 : decode cX9_raiseOnce 149 = .ok (.iinc 2 (-1), 3) := by decide +kernel
theorem dX9_raiseOnce_152 : decode cX9_raiseOnce 152 = .ok (.goto (-127), 3) := by decide +kernel
theorem dX9_raiseOnce_155 : decode cX9_raiseOnce 155 = .ok (.return_, 1) := by decide +kernel
theorem dX9_raise_0 : decode cX9_raise 0 = .ok (.iconst 0, 1) := by decide +kernel
theorem dX9_raise_1 : decode cX9_raise 1 = .ok (.istore_n 3, 1) := by decide +kernel
theorem dX9_raise_2 : decode cX9_raise 2 = .ok (.iload_n 3, 1) := by decide +kernel
theorem dX9_raise_3 : decode cX9_raise 3 = .ok (.iload_n 2, 1) := by decide +kernel
theorem dX9_raise_4 : decode cX9_raise 4 = .ok (.if_icmp .ge 14, 3) := by decide +kernel
theorem dX9_raise_7 : decode cX9_raise 7 = .ok (.aload_n 0, 1) := by decide +kernel
theorem dX9_raise_8 : decode cX9_raise 8 = .ok (.iload_n 1, 1) := by decide +kernel
theorem dX9_raise_9 : decode cX9_raise 9 = .ok (.invokevirtual 38, 3) := by decide +kernel
theorem dX9_raise_12 : decode cX9_raise 12 = .ok (.iinc 3 1, 3) := by decide +kernel
theorem dX9_raise_15 : decode cX9_raise 15 = .ok (.goto (-13), 3) := by decide +kernel
theorem dX9_raise_18 : decode cX9_raise 18 = .ok (.return_, 1) := by decide +kernel
theorem dX6_bringLift_0 : decode cX6_bringLift 0 = .ok (.iload_n 2, 1) := by decide +kernel
theorem dX6_bringLift_1 : decode cX6_bringLift 1 = .ok (.bipush 6, 2) := by decide +kernel
theorem dX6_bringLift_3 : decode cX6_bringLift 3 = .ok (.if_icmp .le 5, 3) := by decide +kernel
theorem dX6_bringLift_6 : decode cX6_bringLift 6 = .ok (.iconst 0, 1) := by decide +kernel
theorem dX6_bringLift_7 : decode cX6_bringLift 7 = .ok (.ireturn, 1) := by decide +kernel
theorem dX6_bringLift_8 : decode cX6_bringLift 8 = .ok (.aload_n 0, 1) := by decide +kernel
theorem dX6_bringLift_9 : decode cX6_bringLift 9 = .ok (.getfield 23, 3) := by decide +kernel
theorem dX6_bringLift_12 : decode cX6_bringLift 12 = .ok (.aload_n 0, 1) := by decide +kernel
theorem dX6_bringLift_13 : decode cX6_bringLift 13 = .ok (.getfield 11, 3) := by decide +kernel
theorem dX6_bringLift_16 : decode cX6_bringLift 16 = .ok (.iload_n 1, 1) := by decide +kernel
theorem dX6_bringLift_17 : decode cX6_bringLift 17 = .ok (.aaload, 1) := by decide +kernel
theorem dX6_bringLift_18 : decode cX6_bringLift 18 = .ok (.bipush 7, 2) := by decide +kernel
theorem dX6_bringLift_20 : decode cX6_bringLift 20 = .ok (.invokevirtual 113, 3) := by decide +kernel
theorem dX6_bringLift_23 : decode cX6_bringLift 23 = .ok (.aload_n 0, 1) := by decide +kernel
theorem dX6_bringLift_24 : decode cX6_bringLift 24 = .ok (.getfield 23, 3) := by decide +kernel
theorem dX6_bringLift_27 : decode cX6_bringLift 27 = .ok (.bipush 7, 2) := by decide +kernel
theorem dX6_bringLift_29 : decode cX6_bringLift 29 = .ok (.iload_n 2, 1) := by decide +kernel
theorem dX6_bringLift_30 : decode cX6_bringLift 30 = .ok (.invokevirtual 142, 3) := by decide +kernel
theorem dX6_bringLift_33 : decode cX6_bringLift 33 = .ok (.aload_n 0, 1) := by decide +kernel
theorem dX6_bringLift_34 : decode cX6_bringLift 34 = .ok (.invokevirtual 122, 3) := by decide +kernel
theorem dX6_bringLift_37 : decode cX6_bringLift 37 = .ok (.ireturn, 1) := by decide +kernel
theorem dX6_bringNegative_0 : decode cX6_bringNegative 0 = .ok (.aload_n 0, 1) := by decide +kernel
theorem dX6_bringNegative_1 : decode cX6_bringNegative 1 = .ok (.getfield 23, 3) := by decide +kernel
theorem dX6_bringNegative_4 : decode cX6_bringNegative 4 = .ok (.aload_n 0, 1) := by decide +kernel
theorem dX6_bringNegative_5 : decode cX6_bringNegative 5 = .ok (.getfield 11, 3) := by decide +kernel
theorem dX6_bringNegative_8 : decode cX6_bringNegative 8 = .ok (.iload_n 1, 1) := by decide +kernel
theorem dX6_bringNegative_9 : decode cX6_bringNegative 9 = .ok (.aaload, 1) := by decide +kernel
theorem dX6_bringNegative_10 : decode cX6_bringNegative 10 = .ok (.bipush 7, 2) := by decide +kernel
theorem dX6_bringNegative_12 : decode cX6_bringNegative 12 = .ok (.invokevirtual 113, 3) := by decide +kernel
theorem dX6_bringNegative_15 : decode cX6_bringNegative 15 = .ok (.iconst 0, 1) := by decide +kernel
theorem dX6_bringNegative_16 : decode cX6_bringNegative 16 = .ok (.istore_n 2, 1) := by decide +kernel
theorem dX6_bringNegative_17 : decode cX6_bringNegative 17 = .ok (.iload_n 2, 1) := by decide +kernel
theorem dX6_bringNegative_18 : decode cX6_bringNegative 18 = .ok (.aload_n 0, 1) := by decide +kernel
theorem dX6_bringNegative_19 : decode cX6_bringNegative 19 = .ok (.getfield 23, 3) := by decide +kernel
theorem dX6_bringNegative_22 : decode cX6_bringNegative 22 = .ok (.getfield 117, 3) := by decide +kernel
theorem dX6_bringNegative_25 : decode cX6_bringNegative 25 = .ok (.invokestatic 46, 3) := by decide +kernel
theorem dX6_bringNegative_28 : decode cX6_bringNegative 28 = .ok (.if_icmp .ge 28, 3) := by decide +kernel
theorem dX6_bringNegative_31 : decode cX6_bringNegative 31 = .ok (.aload_n 0, 1) := by decide +kernel
theorem dX6_bringNegative_32 : decode cX6_bringNegative 32 = .ok (.getfield 23, 3) := by decide +kernel
theorem dX6_bringNegative_35 : decode cX6_bringNegative 35 = .ok (.getfield 118, 3) := by decide +kernel
theorem dX6_bringNegative_38 : decode cX6_bringNegative 38 = .ok (.iload_n 2, 1) := by decide +kernel
theorem dX6_bringNegative_39 : decode cX6_bringNegative 39 = .ok (.aload_n 0, 1) := by decide +kernel
theorem dX6_bringNegative_40 : decode cX6_bringNegative 40 = .ok (.getfield 23, 3) := by decide +kernel
theorem dX6_bringNegative_43 : decode cX6_bringNegative 43 = .ok (.getfield 118, 3) := by decide +kernel
theorem dX6_bringNegative_46 : decode cX6_bringNegative 46 = .ok (.iload_n 2, 1) := by decide +kernel
theorem dX6_bringNegative_47 : decode cX6_bringNegative 47 = .ok (.laload, 1) := by decide +kernel
theorem dX6_bringNegative_48 : decode cX6_bringNegative 48 = .ok (.lneg, 1) := by decide +kernel
theorem dX6_bringNegative_49 : decode cX6_bringNegative 49 = .ok (.lastore, 1) := by decide +kernel
theorem dX6_bringNegative_50 : decode cX6_bringNegative 50 = .ok (.iinc 2 1, 3) := by decide +kernel
theorem dX6_bringNegative_53 : decode cX6_bringNegative 53 = .ok (.goto (-36), 3) := by decide +kernel
theorem dX6_bringNegative_56 : decode cX6_bringNegative 56 = .ok (.aload_n 0, 1) := by decide +kernel
theorem dX6_bringNegative_57 : decode cX6_bringNegative 57 = .ok (.invokevirtual 122, 3) := by decide +kernel
theorem dX6_bringNegative_60 : decode cX6_bringNegative 60 = .ok (.ireturn, 1) := by decide +kernel
theorem dX10_isSide_0 : decode cX10_isSide 0 = .ok (.iload_n 0, 1) := by decide +kernel
theorem dX10_isSide_1 : decode cX10_isSide 1 = .ok (.iconst 1, 1) := by decide +kernel
theorem dX10_isSide_2 : decode cX10_isSide 2 = .ok (.if_icmp .lt 13, 3) := by decide +kernel
theorem dX10_isSide_5 : decode cX10_isSide 5 = .ok (.iload_n 0, 1) := by decide +kernel
theorem dX10_isSide_6 : decode cX10_isSide 6 = .ok (.bipush 7, 2) := by decide +kernel
theorem dX10_isSide_8 : decode cX10_isSide 8 = .ok (.if_icmp .gt 7, 3) := by decide +kernel
theorem dX10_isSide_11 : decode cX10_isSide 11 = .ok (.iconst 1, 1) := by decide +kernel
theorem dX10_isSide_12 : decode cX10_isSide 12 = .ok (.goto 4, 3) := by decide +kernel
theorem dX10_isSide_15 : decode cX10_isSide 15 = .ok (.iconst 0, 1) := by decide +kernel
theorem dX10_isSide_16 : decode cX10_isSide 16 = .ok (.ireturn, 1) := by decide +kernel
theorem dX6_bringOn_0 : decode cX6_bringOn 0 = .ok (.aload_n 0, 1) := by decide +kernel
theorem dX6_bringOn_1 : decode cX6_bringOn 1 = .ok (.getfield 23, 3) := by decide +kernel
theorem dX6_bringOn_4 : decode cX6_bringOn 4 = .ok (.aload_n 0, 1) := by decide +kernel
theorem dX6_bringOn_5 : decode cX6_bringOn 5 = .ok (.getfield 11, 3) := by decide +kernel
theorem dX6_bringOn_8 : decode cX6_bringOn 8 = .ok (.iload_n 1, 1) := by decide +kernel
theorem dX6_bringOn_9 : decode cX6_bringOn 9 = .ok (.aaload, 1) := by decide +kernel
theorem dX6_bringOn_10 : decode cX6_bringOn 10 = .ok (.iload_n 2, 1) := by decide +kernel
theorem dX6_bringOn_11 : decode cX6_bringOn 11 = .ok (.invokevirtual 113, 3) := by decide +kernel
theorem dX6_bringOn_14 : decode cX6_bringOn 14 = .ok (.aload_n 0, 1) := by decide +kernel
theorem dX6_bringOn_15 : decode cX6_bringOn 15 = .ok (.invokevirtual 122, 3) := by decide +kernel
theorem dX6_bringOn_18 : decode cX6_bringOn 18 = .ok (.ireturn, 1) := by decide +kernel
theorem dX6_performOne_0 : decode cX6_performOne 0 = .ok (.aload_n 0, 1) := by decide +kernel
theorem dX6_performOne_1 : decode cX6_performOne 1 = .ok (.iload_n 2, 1) := by decide +kernel
theorem dX6_performOne_2 : decode cX6_performOne 2 = .ok (.invokevirtual 91, 3) := by decide +kernel
theorem dX6_performOne_5 : decode cX6_performOne 5 = .ok (.ifCond .eq 5, 3) := by decide +kernel
theorem dX6_performOne_8 : decode cX6_performOne 8 = .ok (.iconst 0, 1) := by decide +kernel
theorem dX6_performOne_9 : decode cX6_performOne 9 = .ok (.ireturn, 1) := by decide +kernel
theorem dX6_performOne_10 : decode cX6_performOne 10 = .ok (.iload_n 1, 1) := by decide +kernel
theorem dX6_performOne_11 : decode cX6_performOne 11 = .ok (.tableswitch 114 0 4 #[33, 56, 79, 86, 92], 33) := by decide +kernel
theorem dX6_performOne_44 : decode cX6_performOne 44 = .ok (.aload_n 0, 1) := by decide +kernel
theorem dX6_performOne_45 : decode cX6_performOne 45 = .ok (.iload_n 3, 1) := by decide +kernel
theorem dX6_performOne_46 : decode cX6_performOne 46 = .ok (.invokevirtual 91, 3) := by decide +kernel
theorem dX6_performOne_49 : decode cX6_performOne 49 = .ok (.ifCond .ne 16, 3) := by decide +kernel
theorem dX6_performOne_52 : decode cX6_performOne 52 = .ok (.aload_n 0, 1) := by decide +kernel
theorem dX6_performOne_53 : decode cX6_performOne 53 = .ok (.iload_n 2, 1) := by decide +kernel
theorem dX6_performOne_54 : decode cX6_performOne 54 = .ok (.iload_n 3, 1) := by decide +kernel
theorem dX6_performOne_55 : decode cX6_performOne 55 = .ok (.invokevirtual 95, 3) := by decide +kernel
theorem dX6_performOne_58 : decode cX6_performOne 58 = .ok (.ifCond .eq 7, 3) := by decide +kernel
theorem dX6_performOne_61 : decode cX6_performOne 61 = .ok (.iconst 1, 1) := by decide +kernel
theorem dX6_performOne_62 : decode cX6_performOne 62 = .ok (.goto 4, 3) := by decide +kernel
theorem dX6_performOne_65 : decode cX6_performOne 65 = .ok (.iconst 0, 1) := by decide +kernel
theorem dX6_performOne_66 : decode cX6_performOne 66 = .ok (.ireturn, 1) := by decide +kernel
theorem dX6_performOne_67 : decode cX6_performOne 67 = .ok (.aload_n 0, 1) := by decide +kernel
theorem dX6_performOne_68 : decode cX6_performOne 68 = .ok (.iload_n 3, 1) := by decide +kernel
theorem dX6_performOne_69 : decode cX6_performOne 69 = .ok (.invokevirtual 91, 3) := by decide +kernel
theorem dX6_performOne_72 : decode cX6_performOne 72 = .ok (.ifCond .ne 16, 3) := by decide +kernel
theorem dX6_performOne_75 : decode cX6_performOne 75 = .ok (.aload_n 0, 1) := by decide +kernel
theorem dX6_performOne_76 : decode cX6_performOne 76 = .ok (.iload_n 2, 1) := by decide +kernel
theorem dX6_performOne_77 : decode cX6_performOne 77 = .ok (.iload_n 3, 1) := by decide +kernel
theorem dX6_performOne_78 : decode cX6_performOne 78 = .ok (.invokevirtual 98, 3) := by decide +kernel
theorem dX6_performOne_81 : decode cX6_performOne 81 = .ok (.ifCond .eq 7, 3) := by decide +kernel
theorem dX6_performOne_84 : decode cX6_performOne 84 = .ok (.iconst 1, 1) := by decide +kernel
theorem dX6_performOne_85 : decode cX6_performOne 85 = .ok (.goto 4, 3) := by decide +kernel
theorem dX6_performOne_88 : decode cX6_performOne 88 = .ok (.iconst 0, 1) := by decide +kernel
theorem dX6_performOne_89 : decode cX6_performOne 89 = .ok (.ireturn, 1) := by decide +kernel
theorem dX6_performOne_90 : decode cX6_performOne 90 = .ok (.aload_n 0, 1) := by decide +kernel
theorem dX6_performOne_91 : decode cX6_performOne 91 = .ok (.iload_n 2, 1) := by decide +kernel
theorem dX6_performOne_92 : decode cX6_performOne 92 = .ok (.iload_n 3, 1) := by decide +kernel
theorem dX6_performOne_93 : decode cX6_performOne 93 = .ok (.invokevirtual 101, 3) := by decide +kernel
theorem dX6_performOne_96 : decode cX6_performOne 96 = .ok (.ireturn, 1) := by decide +kernel
theorem dX6_performOne_97 : decode cX6_performOne 97 = .ok (.aload_n 0, 1) := by decide +kernel
theorem dX6_performOne_98 : decode cX6_performOne 98 = .ok (.iload_n 2, 1) := by decide +kernel
theorem dX6_performOne_99 : decode cX6_performOne 99 = .ok (.invokevirtual 104, 3) := by decide +kernel
theorem dX6_performOne_102 : decode cX6_performOne 102 = .ok (.ireturn, 1) := by decide +kernel
theorem dX6_performOne_103 : decode cX6_performOne 103 = .ok (.iload_n 3, 1) := by decide +kernel
theorem dX6_performOne_104 : decode cX6_performOne 104 = .ok (.invokestatic 107, 3) := by decide +kernel
theorem dX6_performOne_107 : decode cX6_performOne 107 = .ok (.ifCond .eq 16, 3) := by decide +kernel
theorem dX6_performOne_110 : decode cX6_performOne 110 = .ok (.aload_n 0, 1) := by decide +kernel
theorem dX6_performOne_111 : decode cX6_performOne 111 = .ok (.iload_n 2, 1) := by decide +kernel
theorem dX6_performOne_112 : decode cX6_performOne 112 = .ok (.iload_n 3, 1) := by decide +kernel
theorem dX6_performOne_113 : decode cX6_performOne 113 = .ok (.invokevirtual 110, 3) := by decide +kernel
theorem dX6_performOne_116 : decode cX6_performOne 116 = .ok (.ifCond .eq 7, 3) := by decide +kernel
theorem dX6_performOne_119 : decode cX6_performOne 119 = .ok (.iconst 1, 1) := by decide +kernel
theorem dX6_performOne_120 : decode cX6_performOne 120 = .ok (.goto 4, 3) := by decide +kernel
theorem dX6_performOne_123 : decode cX6_performOne 123 = .ok (.iconst 0, 1) := by decide +kernel
theorem dX6_performOne_124 : decode cX6_performOne 124 = .ok (.ireturn, 1) := by decide +kernel
theorem dX6_performOne_125 : decode cX6_performOne 125 = .ok (.iconst 0, 1) := by decide +kernel
theorem dX6_performOne_126 : decode cX6_performOne 126 = .ok (.ireturn, 1) := by decide +kernel
theorem dX6_perform_0 : decode cX6_perform 0 = .ok (.aload_n 0, 1) := by decide +kernel
theorem dX6_perform_1 : decode cX6_perform 1 = .ok (.getfield 32, 3) := by decide +kernel
theorem dX6_perform_4 : decode cX6_perform 4 = .ok (.istore_n 2, 1) := by decide +kernel
theorem dX6_perform_5 : decode cX6_perform 5 = .ok (.iconst 0, 1) := by decide +kernel
theorem dX6_perform_6 : decode cX6_perform 6 = .ok (.istore_n 3, 1) := by decide +kernel
theorem dX6_perform_7 : decode cX6_perform 7 = .ok (.iload_n 3, 1) := by decide +kernel
theorem dX6_perform_8 : decode cX6_perform 8 = .ok (.aload_n 1, 1) := by decide +kernel
theorem dX6_perform_9 : decode cX6_perform 9 = .ok (.getfield 71, 3) := by decide +kernel
theorem dX6_perform_12 : decode cX6_perform 12 = .ok (.if_icmp .ge 46, 3) := by decide +kernel
theorem dX6_perform_15 : decode cX6_perform 15 = .ok (.aload_n 0, 1) := by decide +kernel
theorem dX6_perform_16 : decode cX6_perform 16 = .ok (.aload_n 1, 1) := by decide +kernel
theorem dX6_perform_17 : decode cX6_perform 17 = .ok (.getfield 74, 3) := by decide +kernel
theorem dX6_perform_20 : decode cX6_perform 20 = .ok (.iload_n 3, 1) := by decide +kernel
theorem dX6_perform_21 : decode cX6_perform 21 = .ok (.iaload, 1) := by decide +kernel
theorem dX6_perform_22 : decode cX6_perform 22 = .ok (.aload_n 1, 1) := by decide +kernel
theorem dX6_perform_23 : decode cX6_perform 23 = .ok (.getfield 78, 3) := by decide +kernel
theorem dX6_perform_26 : decode cX6_perform 26 = .ok (.iload_n 3, 1) := by decide +kernel
theorem dX6_perform_27 : decode cX6_perform 27 = .ok (.iaload, 1) := by decide +kernel
theorem dX6_perform_28 : decode cX6_perform 28 = .ok (.aload_n 1, 1) := by decide +kernel
theorem dX6_perform_29 : decode cX6_perform 29 = .ok (.getfield 81, 3) := by decide +kernel
theorem dX6_perform_32 : decode cX6_perform 32 = .ok (.iload_n 3, 1) := by decide +kernel
theorem dX6_perform_33 : decode cX6_perform 33 = .ok (.iaload, 1) := by decide +kernel
theorem dX6_perform_34 : decode cX6_perform 34 = .ok (.invokevirtual 84, 3) := by decide +kernel
theorem dX6_perform_37 : decode cX6_perform 37 = .ok (.ifCond .ne 15, 3) := by decide +kernel
theorem dX6_perform_40 : decode cX6_perform 40 = .ok (.aload_n 0, 1) := by decide +kernel
theorem dX6_perform_41 : decode cX6_perform 41 = .ok (.iload_n 2, 1) := by decide +kernel
theorem dX6_perform_42 : decode cX6_perform 42 = .ok (.putfield 32, 3) := by decide +kernel
theorem dX6_perform_45 : decode cX6_perform 45 = .ok (.aload_n 1, 1) := by decide +kernel
theorem dX6_perform_46 : decode cX6_perform 46 = .ok (.getfield 88, 3) := by decide +kernel
theorem dX6_perform_49 : decode cX6_perform 49 = .ok (.iload_n 3, 1) := by decide +kernel
theorem dX6_perform_50 : decode cX6_perform 50 = .ok (.iaload, 1) := by decide +kernel
theorem dX6_perform_51 : decode cX6_perform 51 = .ok (.ireturn, 1) := by decide +kernel
theorem dX6_perform_52 : decode cX6_perform 52 = .ok (.iinc 3 1, 3) := by decide +kernel
theorem dX6_perform_55 : decode cX6_perform 55 = .ok (.goto (-48), 3) := by decide +kernel
theorem dX6_perform_58 : decode cX6_perform 58 = .ok (.iconst (-1), 1) := by decide +kernel
theorem dX6_perform_59 : decode cX6_perform 59 = .ok (.ireturn, 1) := by decide +kernel
theorem dX7_add_0 : decode cX7_add 0 = .ok (.aload_n 0, 1) := by decide +kernel
theorem dX7_add_1 : decode cX7_add 1 = .ok (.getfield 9, 3) := by decide +kernel
theorem dX7_add_4 : decode cX7_add 4 = .ok (.aload_n 0, 1) := by decide +kernel
theorem dX7_add_5 : decode cX7_add 5 = .ok (.getfield 18, 3) := by decide +kernel
theorem dX7_add_8 : decode cX7_add 8 = .ok (.if_icmp .ne 8, 3) := by decide +kernel
theorem dX7_add_11 : decode cX7_add 11 = .ok (.aload_n 0, 1) := by decide +kernel
theorem dX7_add_12 : decode cX7_add 12 = .ok (.iload_n 1, 1) := by decide +kernel
theorem dX7_add_13 : decode cX7_add 13 = .ok (.putfield 15, 3) := by decide +kernel
theorem dX7_add_16 : decode cX7_add 16 = .ok (.aload_n 0, 1) := by decide +kernel
theorem dX7_add_17 : decode cX7_add 17 = .ok (.dup, 1) := by decide +kernel
theorem dX7_add_18 : decode cX7_add 18 = .ok (.getfield 9, 3) := by decide +kernel
theorem dX7_add_21 : decode cX7_add 21 = .ok (.iconst 1, 1) := by decide +kernel
theorem dX7_add_22 : decode cX7_add 22 = .ok (.iadd, 1) := by decide +kernel
theorem dX7_add_23 : decode cX7_add 23 = .ok (.putfield 9, 3) := by decide +kernel
theorem dX7_add_26 : decode cX7_add 26 = .ok (.return_, 1) := by decide +kernel
theorem dX7_spellNumber_0 : decode cX7_spellNumber 0 = .ok (.iconst 1, 1) := by decide +kernel
theorem dX7_spellNumber_1 : decode cX7_spellNumber 1 = .ok (.istore_n 2, 1) := by decide +kernel
theorem dX7_spellNumber_2 : decode cX7_spellNumber 2 = .ok (.iconst 0, 1) := by decide +kernel
theorem dX7_spellNumber_3 : decode cX7_spellNumber 3 = .ok (.istore_n 3, 1) := by decide +kernel
theorem dX7_spellNumber_4 : decode cX7_spellNumber 4 = .ok (.iload_n 3, 1) := by decide +kernel
theorem dX7_spellNumber_5 : decode cX7_spellNumber 5 = .ok (.bipush 8, 2) := by decide +kernel
theorem dX7_spellNumber_7 : decode cX7_spellNumber 7 = .ok (.if_icmp .ge 22, 3) := by decide +kernel
theorem dX7_spellNumber_10 : decode cX7_spellNumber 10 = .ok (.iload_n 1, 1) := by decide +kernel
theorem dX7_spellNumber_11 : decode cX7_spellNumber 11 = .ok (.iload_n 2, 1) := by decide +kernel
theorem dX7_spellNumber_12 : decode cX7_spellNumber 12 = .ok (.idiv, 1) := by decide +kernel
theorem dX7_spellNumber_13 : decode cX7_spellNumber 13 = .ok (.bipush 10, 2) := by decide +kernel
theorem dX7_spellNumber_15 : decode cX7_spellNumber 15 = .ok (.if_icmp .lt 14, 3) := by decide +kernel
theorem dX7_spellNumber_18 : decode cX7_spellNumber 18 = .ok (.iload_n 2, 1) := by decide +kernel
theorem dX7_spellNumber_19 : decode cX7_spellNumber 19 = .ok (.bipush 10, 2) := by decide +kernel
theorem dX7_spellNumber_21 : decode cX7_spellNumber 21 = .ok (.imul, 1) := by decide +kernel
theorem dX7_spellNumber_22 : decode cX7_spellNumber 22 = .ok (.istore_n 2, 1) := by decide +kernel
theorem dX7_spellNumber_23 : decode cX7_spellNumber 23 = .ok (.iinc 3 1, 3) := by decide +kernel
theorem dX7_spellNumber_26 : decode cX7_spellNumber 26 = .ok (.goto (-22), 3) := by decide +kernel
theorem dX7_spellNumber_29 : decode cX7_spellNumber 29 = .ok (.iload_n 2, 1) := by decide +kernel
theorem dX7_spellNumber_30 : decode cX7_spellNumber 30 = .ok (.ifCond .le 24, 3) := by decide +kernel
theorem dX7_spellNumber_33 : decode cX7_spellNumber 33 = .ok (.aload_n 0, 1) := by decide +kernel
theorem dX7_spellNumber_34 : decode cX7_spellNumber 34 = .ok (.bipush 48, 2) := by decide +kernel
theorem dX7_spellNumber_36 : decode cX7_spellNumber 36 = .ok (.iload_n 1, 1) := by decide +kernel
theorem dX7_spellNumber_37 : decode cX7_spellNumber 37 = .ok (.iload_n 2, 1) := by decide +kernel
theorem dX7_spellNumber_38 : decode cX7_spellNumber 38 = .ok (.idiv, 1) := by decide +kernel
theorem dX7_spellNumber_39 : decode cX7_spellNumber 39 = .ok (.bipush 10, 2) := by decide +kernel
theorem dX7_spellNumber_41 : decode cX7_spellNumber 41 = .ok (.irem, 1) := by decide +kernel
theorem dX7_spellNumber_42 : decode cX7_spellNumber 42 = .ok (.iadd, 1) := by decide +kernel
theorem dX7_spellNumber_43 : decode cX7_spellNumber 43 = .ok (.invokevirtual 30, 3) := by decide +kernel
theorem dX7_spellNumber_46 : decode cX7_spellNumber 46 = .ok (.iload_n 2, 1) := by decide +kernel
theorem dX7_spellNumber_47 : decode cX7_spellNumber 47 = .ok (.bipush 10, 2) := by decide +kernel
theorem dX7_spellNumber_49 : decode cX7_spellNumber 49 = .ok (.idiv, 1) := by decide +kernel
theorem dX7_spellNumber_50 : decode cX7_spellNumber 50 = .ok (.istore_n 2, 1) := by decide +kernel
theorem dX7_spellNumber_51 : decode cX7_spellNumber 51 = .ok (.goto (-22), 3) := by decide +kernel
theorem dX7_spellNumber_54 : decode cX7_spellNumber 54 = .ok (.return_, 1) := by decide +kernel
theorem dX7_spellPower_0 : decode cX7_spellPower 0 = .ok (.iload_n 2, 1) := by decide +kernel
theorem dX7_spellPower_1 : decode cX7_spellPower 1 = .ok (.ifCond .le 8, 3) := by decide +kernel
theorem dX7_spellPower_4 : decode cX7_spellPower 4 = .ok (.aload_n 0, 1) := by decide +kernel
theorem dX7_spellPower_5 : decode cX7_spellPower 5 = .ok (.iload_n 1, 1) := by decide +kernel
theorem dX7_spellPower_6 : decode cX7_spellPower 6 = .ok (.invokevirtual 30, 3) := by decide +kernel
theorem dX7_spellPower_9 : decode cX7_spellPower 9 = .ok (.iload_n 2, 1) := by decide +kernel
theorem dX7_spellPower_10 : decode cX7_spellPower 10 = .ok (.iconst 1, 1) := by decide +kernel
theorem dX7_spellPower_11 : decode cX7_spellPower 11 = .ok (.if_icmp .le 17, 3) := by decide +kernel
theorem dX7_spellPower_14 : decode cX7_spellPower 14 = .ok (.aload_n 0, 1) := by decide +kernel
theorem dX7_spellPower_15 : decode cX7_spellPower 15 = .ok (.bipush 94, 2) := by decide +kernel
theorem dX7_spellPower_17 : decode cX7_spellPower 17 = .ok (.invokevirtual 30, 3) := by decide +kernel
theorem dX7_spellPower_20 : decode cX7_spellPower 20 = .ok (.aload_n 0, 1) := by decide +kernel
theorem dX7_spellPower_21 : decode cX7_spellPower 21 = .ok (.bipush 48, 2) := by decide +kernel
theorem dX7_spellPower_23 : decode cX7_spellPower 23 = .ok (.iload_n 2, 1) := by decide +kernel
theorem dX7_spellPower_24 : decode cX7_spellPower 24 = .ok (.iadd, 1) := by decide +kernel
theorem dX7_spellPower_25 : decode cX7_spellPower 25 = .ok (.invokevirtual 30, 3) := by decide +kernel
theorem dX7_spellPower_28 : decode cX7_spellPower 28 = .ok (.return_, 1) := by decide +kernel
theorem dX7_spellTerm_0 : decode cX7_spellTerm 0 = .ok (.aload_n 1, 1) := by decide +kernel
theorem dX7_spellTerm_1 : decode cX7_spellTerm 1 = .ok (.iload_n 2, 1) := by decide +kernel
theorem dX7_spellTerm_2 : decode cX7_spellTerm 2 = .ok (.iload_n 3, 1) := by decide +kernel
theorem dX7_spellTerm_3 : decode cX7_spellTerm 3 = .ok (.iload 4, 2) := by decide +kernel
theorem dX7_spellTerm_5 : decode cX7_spellTerm 5 = .ok (.invokevirtual 34, 3) := by decide +kernel
theorem dX7_spellTerm_8 : decode cX7_spellTerm 8 = .ok (.istore 5, 2) := by decide +kernel
theorem dX7_spellTerm_10 : decode cX7_spellTerm 10 = .ok (.iload 5, 2) := by decide +kernel
theorem dX7_spellTerm_12 : decode cX7_spellTerm 12 = .ok (.ifCond .ne 4, 3) := by decide +kernel
theorem dX7_spellTerm_15 : decode cX7_spellTerm 15 = .ok (.return_, 1) := by decide +kernel
theorem dX7_spellTerm_16 : decode cX7_spellTerm 16 = .ok (.iload 5, 2) := by decide +kernel
theorem dX7_spellTerm_18 : decode cX7_spellTerm 18 = .ok (.ifCond .ge 12, 3) := by decide +kernel
theorem dX7_spellTerm_21 : decode cX7_spellTerm 21 = .ok (.aload_n 0, 1) := by decide +kernel
theorem dX7_spellTerm_22 : decode cX7_spellTerm 22 = .ok (.bipush 45, 2) := by decide +kernel
theorem dX7_spellTerm_24 : decode cX7_spellTerm 24 = .ok (.invokevirtual 30, 3) := by decide +kernel
theorem dX7_spellTerm_27 : decode cX7_spellTerm 27 = .ok (.goto 16, 3) := by decide +kernel
theorem dX7_spellTerm_30 : decode cX7_spellTerm 30 = .ok (.aload_n 0, 1) := by decide +kernel
theorem dX7_spellTerm_31 : decode cX7_spellTerm 31 = .ok (.getfield 9, 3) := by decide +kernel
theorem dX7_spellTerm_34 : decode cX7_spellTerm 34 = .ok (.ifCond .le 9, 3) := by decide +kernel
theorem dX7_spellTerm_37 : decode cX7_spellTerm 37 = .ok (.aload_n 0, 1) := by decide +kernel
theorem dX7_spellTerm_38 : decode cX7_spellTerm 38 = .ok (.bipush 43, 2) := by decide +kernel
theorem dX7_spellTerm_40 : decode cX7_spellTerm 40 = .ok (.invokevirtual 30, 3) := by decide +kernel
theorem dX7_spellTerm_43 : decode cX7_spellTerm 43 = .ok (.iload 5, 2) := by decide +kernel
theorem dX7_spellTerm_45 : decode cX7_spellTerm 45 = .ok (.invokestatic 38, 3) := by decide +kernel
theorem dX7_spellTerm_48 : decode cX7_spellTerm 48 = .ok (.istore 6, 2) := by decide +kernel
theorem dX7_spellTerm_50 : decode cX7_spellTerm 50 = .ok (.iload 6, 2) := by decide +kernel
theorem dX7_spellTerm_52 : decode cX7_spellTerm 52 = .ok (.iconst 1, 1) := by decide +kernel
theorem dX7_spellTerm_53 : decode cX7_spellTerm 53 = .ok (.if_icmp .ne 10, 3) := by decide +kernel
theorem dX7_spellTerm_56 : decode cX7_spellTerm 56 = .ok (.aload_n 1, 1) := by decide +kernel
theorem dX7_spellTerm_57 : decode cX7_spellTerm 57 = .ok (.getfield 21, 3) := by decide +kernel
theorem dX7_spellTerm_60 : decode cX7_spellTerm 60 = .ok (.ifCond .ne 9, 3) := by decide +kernel
theorem dX7_spellTerm_63 : decode cX7_spellTerm 63 = .ok (.aload_n 0, 1) := by decide +kernel
theorem dX7_spellTerm_64 : decode cX7_spellTerm 64 = .ok (.iload 6, 2) := by decide +kernel
theorem dX7_spellTerm_66 : decode cX7_spellTerm 66 = .ok (.invokevirtual 44, 3) := by decide +kernel
theorem dX7_spellTerm_69 : decode cX7_spellTerm 69 = .ok (.aload_n 0, 1) := by decide +kernel
theorem dX7_spellTerm_70 : decode cX7_spellTerm 70 = .ok (.bipush 97, 2) := by decide +kernel
theorem dX7_spellTerm_72 : decode cX7_spellTerm 72 = .ok (.iload_n 2, 1) := by decide +kernel
theorem dX7_spellTerm_73 : decode cX7_spellTerm 73 = .ok (.invokevirtual 47, 3) := by decide +kernel
theorem dX7_spellTerm_76 : decode cX7_spellTerm 76 = .ok (.aload_n 0, 1) := by decide +kernel
theorem dX7_spellTerm_77 : decode cX7_spellTerm 77 = .ok (.bipush 98, 2) := by decide +kernel
theorem dX7_spellTerm_79 : decode cX7_spellTerm 79 = .ok (.iload_n 3, 1) := by decide +kernel
theorem dX7_spellTerm_80 : decode cX7_spellTerm 80 = .ok (.invokevirtual 47, 3) := by decide +kernel
theorem dX7_spellTerm_83 : decode cX7_spellTerm 83 = .ok (.aload_n 0, 1) := by decide +kernel
theorem dX7_spellTerm_84 : decode cX7_spellTerm 84 = .ok (.bipush 99, 2) := by decide +kernel
theorem dX7_spellTerm_86 : decode cX7_spellTerm 86 = .ok (.iload 4, 2) := by decide +kernel
theorem dX7_spellTerm_88 : decode cX7_spellTerm 88 = .ok (.invokevirtual 47, 3) := by decide +kernel
theorem dX7_spellTerm_91 : decode cX7_spellTerm 91 = .ok (.return_, 1) := by decide +kernel
theorem dX7_spell_0 : decode cX7_spell 0 = .ok (.aload_n 0, 1) := by decide +kernel
theorem dX7_spell_1 : decode cX7_spell 1 = .ok (.iconst 0, 1) := by decide +kernel
theorem dX7_spell_2 : decode cX7_spell 2 = .ok (.putfield 9, 3) := by decide +kernel
theorem dX7_spell_5 : decode cX7_spell 5 = .ok (.aload_n 0, 1) := by decide +kernel
theorem dX7_spell_6 : decode cX7_spell 6 = .ok (.bipush (-9), 2) := by decide +kernel
theorem dX7_spell_8 : decode cX7_spell 8 = .ok (.putfield 15, 3) := by decide +kernel
theorem dX7_spell_11 : decode cX7_spell 11 = .ok (.aload_n 0, 1) := by decide +kernel
theorem dX7_spell_12 : decode cX7_spell 12 = .ok (.iload_n 2, 1) := by decide +kernel
theorem dX7_spell_13 : decode cX7_spell 13 = .ok (.putfield 18, 3) := by decide +kernel
theorem dX7_spell_16 : decode cX7_spell 16 = .ok (.iconst 0, 1) := by decide +kernel
theorem dX7_spell_17 : decode cX7_spell 17 = .ok (.istore_n 3, 1) := by decide +kernel
theorem dX7_spell_18 : decode cX7_spell 18 = .ok (.iload_n 3, 1) := by decide +kernel
theorem dX7_spell_19 : decode cX7_spell 19 = .ok (.aload_n 1, 1) := by decide +kernel
theorem dX7_spell_20 : decode cX7_spell 20 = .ok (.getfield 21, 3) := by decide +kernel
theorem dX7_spell_23 : decode cX7_spell 23 = .ok (.if_icmp .gt 41, 3) := by decide +kernel
theorem dX7_spell_26 : decode cX7_spell 26 = .ok (.iconst 0, 1) := by decide +kernel
theorem dX7_spell_27 : decode cX7_spell 27 = .ok (.istore 4, 2) := by decide +kernel
theorem dX7_spell_29 : decode cX7_spell 29 = .ok (.iload 4, 2) := by decide +kernel
theorem dX7_spell_31 : decode cX7_spell 31 = .ok (.iload_n 3, 1) := by decide +kernel
theorem dX7_spell_32 : decode cX7_spell 32 = .ok (.if_icmp .gt 26, 3) := by decide +kernel
theorem dX7_spell_35 : decode cX7_spell 35 = .ok (.aload_n 0, 1) := by decide +kernel
theorem dX7_spell_36 : decode cX7_spell 36 = .ok (.aload_n 1, 1) := by decide +kernel
theorem dX7_spell_37 : decode cX7_spell 37 = .ok (.aload_n 1, 1) := by decide +kernel
theorem dX7_spell_38 : decode cX7_spell 38 = .ok (.getfield 21, 3) := by decide +kernel
theorem dX7_spell_41 : decode cX7_spell 41 = .ok (.iload_n 3, 1) := by decide +kernel
theorem dX7_spell_42 : decode cX7_spell 42 = .ok (.isub, 1) := by decide +kernel
theorem dX7_spell_43 : decode cX7_spell 43 = .ok (.iload_n 3, 1) := by decide +kernel
theorem dX7_spell_44 : decode cX7_spell 44 = .ok (.iload 4, 2) := by decide +kernel
theorem dX7_spell_46 : decode cX7_spell 46 = .ok (.isub, 1) := by decide +kernel
theorem dX7_spell_47 : decode cX7_spell 47 = .ok (.iload 4, 2) := by decide +kernel
theorem dX7_spell_49 : decode cX7_spell 49 = .ok (.invokevirtual 26, 3) := by decide +kernel
theorem dX7_spell_52 : decode cX7_spell 52 = .ok (.iinc 4 1, 3) := by decide +kernel
theorem dX7_spell_55 : decode cX7_spell 55 = .ok (.goto (-26), 3) := by decide +kernel
theorem dX7_spell_58 : decode cX7_spell 58 = .ok (.iinc 3 1, 3) := by decide +kernel
theorem dX7_spell_61 : decode cX7_spell 61 = .ok (.goto (-43), 3) := by decide +kernel
theorem dX7_spell_64 : decode cX7_spell 64 = .ok (.aload_n 0, 1) := by decide +kernel
theorem dX7_spell_65 : decode cX7_spell 65 = .ok (.getfield 9, 3) := by decide +kernel
theorem dX7_spell_68 : decode cX7_spell 68 = .ok (.ifCond .ne 9, 3) := by decide +kernel
theorem dX7_spell_71 : decode cX7_spell 71 = .ok (.aload_n 0, 1) := by decide +kernel
theorem dX7_spell_72 : decode cX7_spell 72 = .ok (.bipush 48, 2) := by decide +kernel
theorem dX7_spell_74 : decode cX7_spell 74 = .ok (.invokevirtual 30, 3) := by decide +kernel
theorem dX7_spell_77 : decode cX7_spell 77 = .ok (.return_, 1) := by decide +kernel
theorem dX8_add_0 : decode cX8_add 0 = .ok (.aload_n 0, 1) := by decide +kernel
theorem dX8_add_1 : decode cX8_add 1 = .ok (.getfield 9, 3) := by decide +kernel
theorem dX8_add_4 : decode cX8_add 4 = .ok (.aload_n 0, 1) := by decide +kernel
theorem dX8_add_5 : decode cX8_add 5 = .ok (.getfield 24, 3) := by decide +kernel
theorem dX8_add_8 : decode cX8_add 8 = .ok (.iload_n 1, 1) := by decide +kernel
theorem dX8_add_9 : decode cX8_add 9 = .ok (.iastore, 1) := by decide +kernel
theorem dX8_add_10 : decode cX8_add 10 = .ok (.aload_n 0, 1) := by decide +kernel
theorem dX8_add_11 : decode cX8_add 11 = .ok (.getfield 15, 3) := by decide +kernel
theorem dX8_add_14 : decode cX8_add 14 = .ok (.aload_n 0, 1) := by decide +kernel
theorem dX8_add_15 : decode cX8_add 15 = .ok (.getfield 24, 3) := by decide +kernel
theorem dX8_add_18 : decode cX8_add 18 = .ok (.iload_n 2, 1) := by decide +kernel
theorem dX8_add_19 : decode cX8_add 19 = .ok (.iastore, 1) := by decide +kernel
theorem dX8_add_20 : decode cX8_add 20 = .ok (.aload_n 0, 1) := by decide +kernel
theorem dX8_add_21 : decode cX8_add 21 = .ok (.getfield 18, 3) := by decide +kernel
theorem dX8_add_24 : decode cX8_add 24 = .ok (.aload_n 0, 1) := by decide +kernel
theorem dX8_add_25 : decode cX8_add 25 = .ok (.getfield 24, 3) := by decide +kernel
theorem dX8_add_28 : decode cX8_add 28 = .ok (.iload_n 3, 1) := by decide +kernel
theorem dX8_add_29 : decode cX8_add 29 = .ok (.iastore, 1) := by decide +kernel
theorem dX8_add_30 : decode cX8_add 30 = .ok (.aload_n 0, 1) := by decide +kernel
theorem dX8_add_31 : decode cX8_add 31 = .ok (.getfield 21, 3) := by decide +kernel
theorem dX8_add_34 : decode cX8_add 34 = .ok (.aload_n 0, 1) := by decide +kernel
theorem dX8_add_35 : decode cX8_add 35 = .ok (.getfield 24, 3) := by decide +kernel
theorem dX8_add_38 : decode cX8_add 38 = .ok (.iload 4, 2) := by decide +kernel
theorem dX8_add_40 : decode cX8_add 40 = .ok (.iastore, 1) := by decide +kernel
theorem dX8_add_41 : decode cX8_add 41 = .ok (.aload_n 0, 1) := by decide +kernel
theorem dX8_add_42 : decode cX8_add 42 = .ok (.aload_n 0, 1) := by decide +kernel
theorem dX8_add_43 : decode cX8_add 43 = .ok (.getfield 24, 3) := by decide +kernel
theorem dX8_add_46 : decode cX8_add 46 = .ok (.iconst 1, 1) := by decide +kernel
theorem dX8_add_47 : decode cX8_add 47 = .ok (.iadd, 1) := by decide +kernel
theorem dX8_add_48 : decode cX8_add 48 = .ok (.bipush 16, 2) := by decide +kernel
theorem dX8_add_50 : decode cX8_add 50 = .ok (.irem, 1) := by decide +kernel
theorem dX8_add_51 : decode cX8_add 51 = .ok (.putfield 24, 3) := by decide +kernel
theorem dX8_add_54 : decode cX8_add 54 = .ok (.aload_n 0, 1) := by decide +kernel
theorem dX8_add_55 : decode cX8_add 55 = .ok (.aload_n 0, 1) := by decide +kernel
theorem dX8_add_56 : decode cX8_add 56 = .ok (.getfield 28, 3) := by decide +kernel
theorem dX8_add_59 : decode cX8_add 59 = .ok (.iconst 1, 1) := by decide +kernel
theorem dX8_add_60 : decode cX8_add 60 = .ok (.iadd, 1) := by decide +kernel
theorem dX8_add_61 : decode cX8_add 61 = .ok (.bipush 16, 2) := by decide +kernel
theorem dX8_add_63 : decode cX8_add 63 = .ok (.invokestatic 31, 3) := by decide +kernel
theorem dX8_add_66 : decode cX8_add 66 = .ok (.putfield 28, 3) := by decide +kernel
theorem dX8_add_69 : decode cX8_add 69 = .ok (.return_, 1) := by decide +kernel
theorem dX8_takeBack_0 : decode cX8_takeBack 0 = .ok (.aload_n 0, 1) := by decide +kernel
theorem dX8_takeBack_1 : decode cX8_takeBack 1 = .ok (.aload_n 0, 1) := by decide +kernel
theorem dX8_takeBack_2 : decode cX8_takeBack 2 = .ok (.getfield 24, 3) := by decide +kernel
theorem dX8_takeBack_5 : decode cX8_takeBack 5 = .ok (.bipush 16, 2) := by decide +kernel
theorem dX8_takeBack_7 : decode cX8_takeBack 7 = .ok (.iadd, 1) := by decide +kernel
theorem dX8_takeBack_8 : decode cX8_takeBack 8 = .ok (.iconst 1, 1) := by decide +kernel
theorem dX8_takeBack_9 : decode cX8_takeBack 9 = .ok (.isub, 1) := by decide +kernel
theorem dX8_takeBack_10 : decode cX8_takeBack 10 = .ok (.bipush 16, 2) := by decide +kernel
theorem dX8_takeBack_12 : decode cX8_takeBack 12 = .ok (.irem, 1) := by decide +kernel
theorem dX8_takeBack_13 : decode cX8_takeBack 13 = .ok (.putfield 24, 3) := by decide +kernel
theorem dX8_takeBack_16 : decode cX8_takeBack 16 = .ok (.aload_n 0, 1) := by decide +kernel
theorem dX8_takeBack_17 : decode cX8_takeBack 17 = .ok (.dup, 1) := by decide +kernel
theorem dX8_takeBack_18 : decode cX8_takeBack 18 = .ok (.getfield 28, 3) := by decide +kernel
theorem dX8_takeBack_21 : decode cX8_takeBack 21 = .ok (.iconst 1, 1) := by decide +kernel
theorem dX8_takeBack_22 : decode cX8_takeBack 22 = .ok (.isub, 1) := by decide +kernel
theorem dX8_takeBack_23 : decode cX8_takeBack 23 = .ok (.putfield 28, 3) := by decide +kernel
theorem dX8_takeBack_26 : decode cX8_takeBack 26 = .ok (.aload_n 1, 1) := by decide +kernel
theorem dX8_takeBack_27 : decode cX8_takeBack 27 = .ok (.aload_n 0, 1) := by decide +kernel
theorem dX8_takeBack_28 : decode cX8_takeBack 28 = .ok (.getfield 9, 3) := by decide +kernel
theorem dX8_takeBack_31 : decode cX8_takeBack 31 = .ok (.aload_n 0, 1) := by decide +kernel
theorem dX8_takeBack_32 : decode cX8_takeBack 32 = .ok (.getfield 24, 3) := by decide +kernel
theorem dX8_takeBack_35 : decode cX8_takeBack 35 = .ok (.iaload, 1) := by decide +kernel
theorem dX8_takeBack_36 : decode cX8_takeBack 36 = .ok (.invokevirtual 37, 3) := by decide +kernel
theorem dX8_takeBack_39 : decode cX8_takeBack 39 = .ok (.ifCond .eq 4, 3) := by decide +kernel
theorem dX8_takeBack_42 : decode cX8_takeBack 42 = .ok (.return_, 1) := by decide +kernel
theorem dX8_takeBack_43 : decode cX8_takeBack 43 = .ok (.aload_n 1, 1) := by decide +kernel
theorem dX8_takeBack_44 : decode cX8_takeBack 44 = .ok (.getfield 43, 3) := by decide +kernel
theorem dX8_takeBack_47 : decode cX8_takeBack 47 = .ok (.aload_n 0, 1) := by decide +kernel
theorem dX8_takeBack_48 : decode cX8_takeBack 48 = .ok (.getfield 9, 3) := by decide +kernel
theorem dX8_takeBack_51 : decode cX8_takeBack 51 = .ok (.aload_n 0, 1) := by decide +kernel
theorem dX8_takeBack_52 : decode cX8_takeBack 52 = .ok (.getfield 24, 3) := by decide +kernel
theorem dX8_takeBack_55 : decode cX8_takeBack 55 = .ok (.iaload, 1) := by decide +kernel
theorem dX8_takeBack_56 : decode cX8_takeBack 56 = .ok (.aaload, 1) := by decide +kernel
theorem dX8_takeBack_57 : decode cX8_takeBack 57 = .ok (.astore_n 2, 1) := by decide +kernel
theorem dX8_takeBack_58 : decode cX8_takeBack 58 = .ok (.aload_n 0, 1) := by decide +kernel
theorem dX8_takeBack_59 : decode cX8_takeBack 59 = .ok (.getfield 15, 3) := by decide +kernel
theorem dX8_takeBack_62 : decode cX8_takeBack 62 = .ok (.aload_n 0, 1) := by decide +kernel
theorem dX8_takeBack_63 : decode cX8_takeBack 63 = .ok (.getfield 24, 3) := by decide +kernel
theorem dX8_takeBack_66 : decode cX8_takeBack 66 = .ok (.iaload, 1) := by decide +kernel
theorem dX8_takeBack_67 : decode cX8_takeBack 67 = .ok (.iconst (-1), 1) := by decide +kernel
theorem dX8_takeBack_68 : decode cX8_takeBack 68 = .ok (.if_icmp .ne 32, 3) := by decide +kernel
theorem dX8_takeBack_71 : decode cX8_takeBack 71 = .ok (.aload_n 2, 1) := by decide +kernel
theorem dX8_takeBack_72 : decode cX8_takeBack 72 = .ok (.aload_n 0, 1) := by decide +kernel
theorem dX8_takeBack_73 : decode cX8_takeBack 73 = .ok (.getfield 18, 3) := by decide +kernel
theorem dX8_takeBack_76 : decode cX8_takeBack 76 = .ok (.aload_n 0, 1) := by decide +kernel
theorem dX8_takeBack_77 : decode cX8_takeBack 77 = .ok (.getfield 24, 3) := by decide +kernel
theorem dX8_takeBack_80 : decode cX8_takeBack 80 = .ok (.iaload, 1) := by decide +kernel
theorem dX8_takeBack_81 : decode cX8_takeBack 81 = .ok (.putfield 47, 3) := by decide +kernel
theorem dX8_takeBack_84 : decode cX8_takeBack 84 = .ok (.aload_n 2, 1) := by decide +kernel
theorem dX8_takeBack_85 : decode cX8_takeBack 85 = .ok (.aload_n 0, 1) := by decide +kernel
theorem dX8_takeBack_86 : decode cX8_takeBack 86 = .ok (.getfield 21, 3) := by decide +kernel
theorem dX8_takeBack_89 : decode cX8_takeBack 89 = .ok (.aload_n 0, 1) := by decide +kernel
theorem dX8_takeBack_90 : decode cX8_takeBack 90 = .ok (.getfield 24, 3) := by decide +kernel
theorem dX8_takeBack_93 : decode cX8_takeBack 93 = .ok (.iaload, 1) := by decide +kernel
theorem dX8_takeBack_94 : decode cX8_takeBack 94 = .ok (.putfield 52, 3) := by decide +kernel
theorem dX8_takeBack_97 : decode cX8_takeBack 97 = .ok (.goto 26, 3) := by decide +kernel
theorem dX8_takeBack_100 : decode cX8_takeBack 100 = .ok (.aload_n 2, 1) := by decide +kernel
theorem dX8_takeBack_101 : decode cX8_takeBack 101 = .ok (.getfield 55, 3) := by decide +kernel
theorem dX8_takeBack_104 : decode cX8_takeBack 104 = .ok (.aload_n 0, 1) := by decide +kernel
theorem dX8_takeBack_105 : decode cX8_takeBack 105 = .ok (.getfield 15, 3) := by decide +kernel
theorem dX8_takeBack_108 : decode cX8_takeBack 108 = .ok (.aload_n 0, 1) := by decide +kernel
theorem dX8_takeBack_109 : decode cX8_takeBack 109 = .ok (.getfield 24, 3) := by decide +kernel
theorem dX8_takeBack_112 : decode cX8_takeBack 112 = .ok (.iaload, 1) := by decide +kernel
theorem dX8_takeBack_113 : decode cX8_takeBack 113 = .ok (.aload_n 0, 1) := by decide +kernel
theorem dX8_takeBack_114 : decode cX8_takeBack 114 = .ok (.getfield 18, 3) := by decide +kernel
theorem dX8_takeBack_117 : decode cX8_takeBack 117 = .ok (.aload_n 0, 1) := by decide +kernel
theorem dX8_takeBack_118 : decode cX8_takeBack 118 = .ok (.getfield 24, 3) := by decide +kernel
theorem dX8_takeBack_121 : decode cX8_takeBack 121 = .ok (.iaload, 1) := by decide +kernel
theorem dX8_takeBack_122 : decode cX8_takeBack 122 = .ok (.iastore, 1) := by decide +kernel
theorem dX8_takeBack_123 : decode cX8_takeBack 123 = .ok (.return_, 1) := by decide +kernel
theorem dX10_numberOn_0 : decode cX10_numberOn 0 = .ok (.iload_n 0, 1) := by decide +kernel
theorem dX10_numberOn_1 : decode cX10_numberOn 1 = .ok (.tableswitch 73 1 6 #[39, 41, 47, 53, 59, 65], 39) := by decide +kernel
theorem dX10_numberOn_40 : decode cX10_numberOn 40 = .ok (.iconst 0, 1) := by decide +kernel
theorem dX10_numberOn_41 : decode cX10_numberOn 41 = .ok (.ireturn, 1) := by decide +kernel
theorem dX10_numberOn_42 : decode cX10_numberOn 42 = .ok (.iload_n 1, 1) := by decide +kernel
theorem dX10_numberOn_43 : decode cX10_numberOn 43 = .ok (.iconst 0, 1) := by decide +kernel
theorem dX10_numberOn_44 : decode cX10_numberOn 44 = .ok (.invokestatic 310, 3) := by decide +kernel
theorem dX10_numberOn_47 : decode cX10_numberOn 47 = .ok (.ireturn, 1) := by decide +kernel
theorem dX10_numberOn_48 : decode cX10_numberOn 48 = .ok (.iload_n 2, 1) := by decide +kernel
theorem dX10_numberOn_49 : decode cX10_numberOn 49 = .ok (.iconst 0, 1) := by decide +kernel
theorem dX10_numberOn_50 : decode cX10_numberOn 50 = .ok (.invokestatic 310, 3) := by decide +kernel
theorem dX10_numberOn_53 : decode cX10_numberOn 53 = .ok (.ireturn, 1) := by decide +kernel
theorem dX10_numberOn_54 : decode cX10_numberOn 54 = .ok (.iconst 0, 1) := by decide +kernel
theorem dX10_numberOn_55 : decode cX10_numberOn 55 = .ok (.iload_n 1, 1) := by decide +kernel
theorem dX10_numberOn_56 : decode cX10_numberOn 56 = .ok (.invokestatic 310, 3) := by decide +kernel
theorem dX10_numberOn_59 : decode cX10_numberOn 59 = .ok (.ireturn, 1) := by decide +kernel
theorem dX10_numberOn_60 : decode cX10_numberOn 60 = .ok (.iconst 0, 1) := by decide +kernel
theorem dX10_numberOn_61 : decode cX10_numberOn 61 = .ok (.iload_n 2, 1) := by decide +kernel
theorem dX10_numberOn_62 : decode cX10_numberOn 62 = .ok (.invokestatic 310, 3) := by decide +kernel
theorem dX10_numberOn_65 : decode cX10_numberOn 65 = .ok (.ireturn, 1) := by decide +kernel
theorem dX10_numberOn_66 : decode cX10_numberOn 66 = .ok (.iload_n 1, 1) := by decide +kernel
theorem dX10_numberOn_67 : decode cX10_numberOn 67 = .ok (.iload_n 2, 1) := by decide +kernel
theorem dX10_numberOn_68 : decode cX10_numberOn 68 = .ok (.isub, 1) := by decide +kernel
theorem dX10_numberOn_69 : decode cX10_numberOn 69 = .ok (.iload_n 2, 1) := by decide +kernel
theorem dX10_numberOn_70 : decode cX10_numberOn 70 = .ok (.invokestatic 310, 3) := by decide +kernel
theorem dX10_numberOn_73 : decode cX10_numberOn 73 = .ok (.ireturn, 1) := by decide +kernel
theorem dX10_numberOn_74 : decode cX10_numberOn 74 = .ok (.iload_n 2, 1) := by decide +kernel
theorem dX10_numberOn_75 : decode cX10_numberOn 75 = .ok (.ireturn, 1) := by decide +kernel
theorem dX9_among_0 : decode cX9_among 0 = .ok (.aload_n 0, 1) := by decide +kernel
theorem dX9_among_1 : decode cX9_among 1 = .ok (.getfield 9, 3) := by decide +kernel
theorem dX9_among_4 : decode cX9_among 4 = .ok (.iload_n 1, 1) := by decide +kernel
theorem dX9_among_5 : decode cX9_among 5 = .ok (.aload_n 0, 1) := by decide +kernel
theorem dX9_among_6 : decode cX9_among 6 = .ok (.getfield 15, 3) := by decide +kernel
theorem dX9_among_9 : decode cX9_among 9 = .ok (.iload_n 2, 1) := by decide +kernel
theorem dX9_among_10 : decode cX9_among 10 = .ok (.invokestatic 42, 3) := by decide +kernel
theorem dX9_among_13 : decode cX9_among 13 = .ok (.laload, 1) := by decide +kernel
theorem dX9_among_14 : decode cX9_among 14 = .ok (.lreturn, 1) := by decide +kernel
theorem dX10_placesOn_0 : decode cX10_placesOn 0 = .ok (.iload_n 0, 1) := by decide +kernel
theorem dX10_placesOn_1 : decode cX10_placesOn 1 = .ok (.invokestatic 316, 3) := by decide +kernel
theorem dX10_placesOn_4 : decode cX10_placesOn 4 = .ok (.istore_n 2, 1) := by decide +kernel
theorem dX10_placesOn_5 : decode cX10_placesOn 5 = .ok (.iload_n 2, 1) := by decide +kernel
theorem dX10_placesOn_6 : decode cX10_placesOn 6 = .ok (.iconst 1, 1) := by decide +kernel
theorem dX10_placesOn_7 : decode cX10_placesOn 7 = .ok (.if_icmp .ne 5, 3) := by decide +kernel
theorem dX10_placesOn_10 : decode cX10_placesOn 10 = .ok (.iconst 1, 1) := by decide +kernel
theorem dX10_placesOn_11 : decode cX10_placesOn 11 = .ok (.ireturn, 1) := by decide +kernel
theorem dX10_placesOn_12 : decode cX10_placesOn 12 = .ok (.iload_n 2, 1) := by decide +kernel
theorem dX10_placesOn_13 : decode cX10_placesOn 13 = .ok (.iconst 2, 1) := by decide +kernel
theorem dX10_placesOn_14 : decode cX10_placesOn 14 = .ok (.if_icmp .ne 9, 3) := by decide +kernel
theorem dX10_placesOn_17 : decode cX10_placesOn 17 = .ok (.iload_n 1, 1) := by decide +kernel
theorem dX10_placesOn_18 : decode cX10_placesOn 18 = .ok (.iconst 1, 1) := by decide +kernel
theorem dX10_placesOn_19 : decode cX10_placesOn 19 = .ok (.iadd, 1) := by decide +kernel
theorem dX10_placesOn_20 : decode cX10_placesOn 20 = .ok (.goto 7, 3) := by decide +kernel
theorem dX10_placesOn_23 : decode cX10_placesOn 23 = .ok (.iload_n 1, 1) := by decide +kernel
theorem dX10_placesOn_24 : decode cX10_placesOn 24 = .ok (.invokestatic 140, 3) := by decide +kernel
theorem dX10_placesOn_27 : decode cX10_placesOn 27 = .ok (.ireturn, 1) := by decide +kernel
theorem dX9_firstFault_0 : decode cX9_firstFault 0 = .ok (.iconst 0, 1) := by decide +kernel
theorem dX9_firstFault_1 : decode cX9_firstFault 1 = .ok (.istore_n 3, 1) := by decide +kernel
theorem dX9_firstFault_2 : decode cX9_firstFault 2 = .ok (.iload_n 3, 1) := by decide +kernel
theorem dX9_firstFault_3 : decode cX9_firstFault 3 = .ok (.iload_n 1, 1) := by decide +kernel
theorem dX9_firstFault_4 : decode cX9_firstFault 4 = .ok (.aload_n 0, 1) := by decide +kernel
theorem dX9_firstFault_5 : decode cX9_firstFault 5 = .ok (.getfield 15, 3) := by decide +kernel
theorem dX9_firstFault_8 : decode cX9_firstFault 8 = .ok (.invokestatic 45, 3) := by decide +kernel
theorem dX9_firstFault_11 : decode cX9_firstFault 11 = .ok (.if_icmp .ge 24, 3) := by decide +kernel
theorem dX9_firstFault_14 : decode cX9_firstFault 14 = .ok (.aload_n 0, 1) := by decide +kernel
theorem dX9_firstFault_15 : decode cX9_firstFault 15 = .ok (.iload_n 1, 1) := by decide +kernel
theorem dX9_firstFault_16 : decode cX9_firstFault 16 = .ok (.iload_n 3, 1) := by decide +kernel
theorem dX9_firstFault_17 : decode cX9_firstFault 17 = .ok (.invokevirtual 48, 3) := by decide +kernel
theorem dX9_firstFault_20 : decode cX9_firstFault 20 = .ok (.iload_n 2, 1) := by decide +kernel
theorem dX9_firstFault_21 : decode cX9_firstFault 21 = .ok (.invokestatic 52, 3) := by decide +kernel
theorem dX9_firstFault_24 : decode cX9_firstFault 24 = .ok (.ifCond .eq 5, 3) := by decide +kernel
theorem dX9_firstFault_27 : decode cX9_firstFault 27 = .ok (.iload_n 3, 1) := by decide +kernel
theorem dX9_firstFault_28 : decode cX9_firstFault 28 = .ok (.ireturn, 1) := by decide +kernel
theorem dX9_firstFault_29 : decode cX9_firstFault 29 = .ok (.iinc 3 1, 3) := by decide +kernel
theorem dX9_firstFault_32 : decode cX9_firstFault 32 = .ok (.goto (-30), 3) := by decide +kernel
theorem dX9_firstFault_35 : decode cX9_firstFault 35 = .ok (.bipush (-9), 2) := by decide +kernel
theorem dX9_firstFault_37 : decode cX9_firstFault 37 = .ok (.ireturn, 1) := by decide +kernel
theorem dX9_leastLift_0 : decode cX9_leastLift 0 = .ok (.iconst 0, 1) := by decide +kernel
theorem dX9_leastLift_1 : decode cX9_leastLift 1 = .ok (.istore_n 3, 1) := by decide +kernel
theorem dX9_leastLift_2 : decode cX9_leastLift 2 = .ok (.iload_n 3, 1) := by decide +kernel
theorem dX9_leastLift_3 : decode cX9_leastLift 3 = .ok (.bipush 12, 2) := by decide +kernel
theorem dX9_leastLift_5 : decode cX9_leastLift 5 = .ok (.if_icmp .gt 31, 3) := by decide +kernel
theorem dX9_leastLift_8 : decode cX9_leastLift 8 = .ok (.iload_n 3, 1) := by decide +kernel
theorem dX9_leastLift_9 : decode cX9_leastLift 9 = .ok (.ifCond .le 8, 3) := by decide +kernel
theorem dX9_leastLift_12 : decode cX9_leastLift 12 = .ok (.aload_n 0, 1) := by decide +kernel
theorem dX9_leastLift_13 : decode cX9_leastLift 13 = .ok (.iload_n 1, 1) := by decide +kernel
theorem dX9_leastLift_14 : decode cX9_leastLift 14 = .ok (.invokevirtual 38, 3) := by decide +kernel
theorem dX9_leastLift_17 : decode cX9_leastLift 17 = .ok (.aload_n 0, 1) := by decide +kernel
theorem dX9_leastLift_18 : decode cX9_leastLift 18 = .ok (.iload_n 1, 1) := by decide +kernel
theorem dX9_leastLift_19 : decode cX9_leastLift 19 = .ok (.iload_n 2, 1) := by decide +kernel
theorem dX9_leastLift_20 : decode cX9_leastLift 20 = .ok (.invokevirtual 56, 3) := by decide +kernel
theorem dX9_leastLift_23 : decode cX9_leastLift 23 = .ok (.bipush (-9), 2) := by decide +kernel
theorem dX9_leastLift_25 : decode cX9_leastLift 25 = .ok (.if_icmp .ne 5, 3) := by decide +kernel
theorem dX9_leastLift_28 : decode cX9_leastLift 28 = .ok (.iload_n 3, 1) := by decide +kernel
theorem dX9_leastLift_29 : decode cX9_leastLift 29 = .ok (.ireturn, 1) := by decide +kernel
theorem dX9_leastLift_30 : decode cX9_leastLift 30 = .ok (.iinc 3 1, 3) := by decide +kernel
theorem dX9_leastLift_33 : decode cX9_leastLift 33 = .ok (.goto (-31), 3) := by decide +kernel
theorem dX9_leastLift_36 : decode cX9_leastLift 36 = .ok (.bipush (-9), 2) := by decide +kernel
theorem dX9_leastLift_38 : decode cX9_leastLift 38 = .ok (.ireturn, 1) := by decide +kernel
theorem dX9_worth_0 : decode cX9_worth 0 = .ok (.lconst 0, 1) := by decide +kernel
theorem dX9_worth_1 : decode cX9_worth 1 = .ok (.lstore 4, 2) := by decide +kernel
theorem dX9_worth_3 : decode cX9_worth 3 = .ok (.iconst 0, 1) := by decide +kernel
theorem dX9_worth_4 : decode cX9_worth 4 = .ok (.istore 6, 2) := by decide +kernel
theorem dX9_worth_6 : decode cX9_worth 6 = .ok (.iconst 0, 1) := by decide +kernel
theorem dX9_worth_7 : decode cX9_worth 7 = .ok (.istore 7, 2) := by decide +kernel
theorem dX9_worth_9 : decode cX9_worth 9 = .ok (.iload 7, 2) := by decide +kernel
theorem dX9_worth_11 : decode cX9_worth 11 = .ok (.aload_n 0, 1) := by decide +kernel
theorem dX9_worth_12 : decode cX9_worth 12 = .ok (.getfield 15, 3) := by decide +kernel
theorem dX9_worth_15 : decode cX9_worth 15 = .ok (.if_icmp .gt 69, 3) := by decide +kernel
theorem dX9_worth_18 : decode cX9_worth 18 = .ok (.lconst 0, 1) := by decide +kernel
theorem dX9_worth_19 : decode cX9_worth 19 = .ok (.lstore 8, 2) := by decide +kernel
theorem dX9_worth_21 : decode cX9_worth 21 = .ok (.lconst 1, 1) := by decide +kernel
theorem dX9_worth_22 : decode cX9_worth 22 = .ok (.lstore 10, 2) := by decide +kernel
theorem dX9_worth_24 : decode cX9_worth 24 = .ok (.iconst 0, 1) := by decide +kernel
theorem dX9_worth_25 : decode cX9_worth 25 = .ok (.istore 12, 2) := by decide +kernel
theorem dX9_worth_27 : decode cX9_worth 27 = .ok (.iload 12, 2) := by decide +kernel
theorem dX9_worth_29 : decode cX9_worth 29 = .ok (.iload 7, 2) := by decide +kernel
theorem dX9_worth_31 : decode cX9_worth 31 = .ok (.if_icmp .gt 37, 3) := by decide +kernel
theorem dX9_worth_34 : decode cX9_worth 34 = .ok (.lload 8, 2) := by decide +kernel
theorem dX9_worth_36 : decode cX9_worth 36 = .ok (.iload_n 2, 1) := by decide +kernel
theorem dX9_worth_37 : decode cX9_worth 37 = .ok (.i2l, 1) := by decide +kernel
theorem dX9_worth_38 : decode cX9_worth 38 = .ok (.lmul, 1) := by decide +kernel
theorem dX9_worth_39 : decode cX9_worth 39 = .ok (.aload_n 0, 1) := by decide +kernel
theorem dX9_worth_40 : decode cX9_worth 40 = .ok (.getfield 9, 3) := by decide +kernel
theorem dX9_worth_43 : decode cX9_worth 43 = .ok (.iload 6, 2) := by decide +kernel
theorem dX9_worth_45 : decode cX9_worth 45 = .ok (.laload, 1) := by decide +kernel
theorem dX9_worth_46 : decode cX9_worth 46 = .ok (.lload 10, 2) := by decide +kernel
theorem dX9_worth_48 : decode cX9_worth 48 = .ok (.lmul, 1) := by decide +kernel
theorem dX9_worth_49 : decode cX9_worth 49 = .ok (.ladd, 1) := by decide +kernel
theorem dX9_worth_50 : decode cX9_worth 50 = .ok (.lstore 8, 2) := by decide +kernel
theorem dX9_worth_52 : decode cX9_worth 52 = .ok (.lload 10, 2) := by decide +kernel
theorem dX9_worth_54 : decode cX9_worth 54 = .ok (.iload_n 3, 1) := by decide +kernel
theorem dX9_worth_55 : decode cX9_worth 55 = .ok (.i2l, 1) := by decide +kernel
theorem dX9_worth_56 : decode cX9_worth 56 = .ok (.lmul, 1) := by decide +kernel
theorem dX9_worth_57 : decode cX9_worth 57 = .ok (.lstore 10, 2) := by decide +kernel
theorem dX9_worth_59 : decode cX9_worth 59 = .ok (.iinc 6 1, 3) := by decide +kernel
theorem dX9_worth_62 : decode cX9_worth 62 = .ok (.iinc 12 1, 3) := by decide +kernel
theorem dX9_worth_65 : decode cX9_worth 65 = .ok (.goto (-38), 3) := by decide +kernel
theorem dX9_worth_68 : decode cX9_worth 68 = .ok (.lload 4, 2) := by decide +kernel
theorem dX9_worth_70 : decode cX9_worth 70 = .ok (.iload_n 1, 1) := by decide +kernel
theorem dX9_worth_71 : decode cX9_worth 71 = .ok (.i2l, 1) := by decide +kernel
theorem dX9_worth_72 : decode cX9_worth 72 = .ok (.lmul, 1) := by decide +kernel
theorem dX9_worth_73 : decode cX9_worth 73 = .ok (.lload 8, 2) := by decide +kernel
theorem dX9_worth_75 : decode cX9_worth 75 = .ok (.ladd, 1) := by decide +kernel
theorem dX9_worth_76 : decode cX9_worth 76 = .ok (.lstore 4, 2) := by decide +kernel
theorem dX9_worth_78 : decode cX9_worth 78 = .ok (.iinc 7 1, 3) := by decide +kernel
theorem dX9_worth_81 : decode cX9_worth 81 = .ok (.goto (-72), 3) := by decide +kernel
theorem dX9_worth_84 : decode cX9_worth 84 = .ok (.lload 4, 2) := by decide +kernel
theorem dX9_worth_86 : decode cX9_worth 86 = .ok (.lreturn, 1) := by decide +kernel
theorem dX9_worthAt_0 : decode cX9_worthAt 0 = .ok (.iload_n 1, 1) := by decide +kernel
theorem dX9_worthAt_1 : decode cX9_worthAt 1 = .ok (.iload_n 2, 1) := by decide +kernel
theorem dX9_worthAt_2 : decode cX9_worthAt 2 = .ok (.iload_n 3, 1) := by decide +kernel
theorem dX9_worthAt_3 : decode cX9_worthAt 3 = .ok (.invokestatic 42, 3) := by decide +kernel
theorem dX9_worthAt_6 : decode cX9_worthAt 6 = .ok (.istore 4, 2) := by decide +kernel
theorem dX9_worthAt_8 : decode cX9_worthAt 8 = .ok (.iload 4, 2) := by decide +kernel
theorem dX9_worthAt_10 : decode cX9_worthAt 10 = .ok (.invokestatic 59, 3) := by decide +kernel
theorem dX9_worthAt_13 : decode cX9_worthAt 13 = .ok (.istore 5, 2) := by decide +kernel
theorem dX9_worthAt_15 : decode cX9_worthAt 15 = .ok (.iload 4, 2) := by decide +kernel
theorem dX9_worthAt_17 : decode cX9_worthAt 17 = .ok (.iload 5, 2) := by decide +kernel
theorem dX9_worthAt_19 : decode cX9_worthAt 19 = .ok (.iconst 0, 1) := by decide +kernel
theorem dX9_worthAt_20 : decode cX9_worthAt 20 = .ok (.invokestatic 26, 3) := by decide +kernel
theorem dX9_worthAt_23 : decode cX9_worthAt 23 = .ok (.isub, 1) := by decide +kernel
theorem dX9_worthAt_24 : decode cX9_worthAt 24 = .ok (.istore 6, 2) := by decide +kernel
theorem dX9_worthAt_26 : decode cX9_worthAt 26 = .ok (.aload_n 0, 1) := by decide +kernel
theorem dX9_worthAt_27 : decode cX9_worthAt 27 = .ok (.iload_n 2, 1) := by decide +kernel
theorem dX9_worthAt_28 : decode cX9_worthAt 28 = .ok (.iload 5, 2) := by decide +kernel
theorem dX9_worthAt_30 : decode cX9_worthAt 30 = .ok (.isub, 1) := by decide +kernel
theorem dX9_worthAt_31 : decode cX9_worthAt 31 = .ok (.iload 5, 2) := by decide +kernel
theorem dX9_worthAt_33 : decode cX9_worthAt 33 = .ok (.iload 6, 2) := by decide +kernel
theorem dX9_worthAt_35 : decode cX9_worthAt 35 = .ok (.isub, 1) := by decide +kernel
theorem dX9_worthAt_36 : decode cX9_worthAt 36 = .ok (.iload 6, 2) := by decide +kernel
theorem dX9_worthAt_38 : decode cX9_worthAt 38 = .ok (.invokevirtual 62, 3) := by decide +kernel
theorem dX9_worthAt_41 : decode cX9_worthAt 41 = .ok (.lreturn, 1) := by decide +kernel
theorem dX9_failingPoint_0 : decode cX9_failingPoint 0 = .ok (.iconst 0, 1) := by decide +kernel
theorem dX9_failingPoint_1 : decode cX9_failingPoint 1 = .ok (.istore 4, 2) := by decide +kernel
theorem dX9_failingPoint_3 : decode cX9_failingPoint 3 = .ok (.iload 4, 2) := by decide +kernel
theorem dX9_failingPoint_5 : decode cX9_failingPoint 5 = .ok (.iload_n 1, 1) := by decide +kernel
theorem dX9_failingPoint_6 : decode cX9_failingPoint 6 = .ok (.iload_n 3, 1) := by decide +kernel
theorem dX9_failingPoint_7 : decode cX9_failingPoint 7 = .ok (.invokestatic 45, 3) := by decide +kernel
theorem dX9_failingPoint_10 : decode cX9_failingPoint 10 = .ok (.if_icmp .ge 27, 3) := by decide +kernel
theorem dX9_failingPoint_13 : decode cX9_failingPoint 13 = .ok (.aload_n 0, 1) := by decide +kernel
theorem dX9_failingPoint_14 : decode cX9_failingPoint 14 = .ok (.iload_n 1, 1) := by decide +kernel
theorem dX9_failingPoint_15 : decode cX9_failingPoint 15 = .ok (.iload_n 3, 1) := by decide +kernel
theorem dX9_failingPoint_16 : decode cX9_failingPoint 16 = .ok (.iload 4, 2) := by decide +kernel
theorem dX9_failingPoint_18 : decode cX9_failingPoint 18 = .ok (.invokevirtual 69, 3) := by decide +kernel
theorem dX9_failingPoint_21 : decode cX9_failingPoint 21 = .ok (.iload_n 2, 1) := by decide +kernel
theorem dX9_failingPoint_22 : decode cX9_failingPoint 22 = .ok (.invokestatic 52, 3) := by decide +kernel
theorem dX9_failingPoint_25 : decode cX9_failingPoint 25 = .ok (.ifCond .eq 6, 3) := by decide +kernel
theorem dX9_failingPoint_28 : decode cX9_failingPoint 28 = .ok (.iload 4, 2) := by decide +kernel
theorem dX9_failingPoint_30 : decode cX9_failingPoint 30 = .ok (.ireturn, 1) := by decide +kernel
theorem dX9_failingPoint_31 : decode cX9_failingPoint 31 = .ok (.iinc 4 1, 3) := by decide +kernel
theorem dX9_failingPoint_34 : decode cX9_failingPoint 34 = .ok (.goto (-31), 3) := by decide +kernel
theorem dX9_failingPoint_37 : decode cX9_failingPoint 37 = .ok (.bipush (-9), 2) := by decide +kernel
theorem dX9_failingPoint_39 : decode cX9_failingPoint 39 = .ok (.ireturn, 1) := by decide +kernel
theorem dX9_failingSize_0 : decode cX9_failingSize 0 = .ok (.iconst 1, 1) := by decide +kernel
theorem dX9_failingSize_1 : decode cX9_failingSize 1 = .ok (.istore_n 3, 1) := by decide +kernel
theorem dX9_failingSize_2 : decode cX9_failingSize 2 = .ok (.iload_n 3, 1) := by decide +kernel
theorem dX9_failingSize_3 : decode cX9_failingSize 3 = .ok (.bipush 12, 2) := by decide +kernel
theorem dX9_failingSize_5 : decode cX9_failingSize 5 = .ok (.if_icmp .gt 23, 3) := by decide +kernel
theorem dX9_failingSize_8 : decode cX9_failingSize 8 = .ok (.aload_n 0, 1) := by decide +kernel
theorem dX9_failingSize_9 : decode cX9_failingSize 9 = .ok (.iload_n 1, 1) := by decide +kernel
theorem dX9_failingSize_10 : decode cX9_failingSize 10 = .ok (.iload_n 2, 1) := by decide +kernel
theorem dX9_failingSize_11 : decode cX9_failingSize 11 = .ok (.iload_n 3, 1) := by decide +kernel
theorem dX9_failingSize_12 : decode cX9_failingSize 12 = .ok (.invokevirtual 66, 3) := by decide +kernel
theorem dX9_failingSize_15 : decode cX9_failingSize 15 = .ok (.bipush (-9), 2) := by decide +kernel
theorem dX9_failingSize_17 : decode cX9_failingSize 17 = .ok (.if_icmp .eq 5, 3) := by decide +kernel
theorem dX9_failingSize_20 : decode cX9_failingSize 20 = .ok (.iload_n 3, 1) := by decide +kernel
theorem dX9_failingSize_21 : decode cX9_failingSize 21 = .ok (.ireturn, 1) := by decide +kernel
theorem dX9_failingSize_22 : decode cX9_failingSize 22 = .ok (.iinc 3 1, 3) := by decide +kernel
theorem dX9_failingSize_25 : decode cX9_failingSize 25 = .ok (.goto (-23), 3) := by decide +kernel
theorem dX9_failingSize_28 : decode cX9_failingSize 28 = .ok (.bipush (-9), 2) := by decide +kernel
theorem dX9_failingSize_30 : decode cX9_failingSize 30 = .ok (.ireturn, 1) := by decide +kernel
theorem dX9_lowestPoint_0 : decode cX9_lowestPoint 0 = .ok (.iconst 0, 1) := by decide +kernel
theorem dX9_lowestPoint_1 : decode cX9_lowestPoint 1 = .ok (.istore_n 3, 1) := by decide +kernel
theorem dX9_lowestPoint_2 : decode cX9_lowestPoint 2 = .ok (.aload_n 0, 1) := by decide +kernel
theorem dX9_lowestPoint_3 : decode cX9_lowestPoint 3 = .ok (.iload_n 1, 1) := by decide +kernel
theorem dX9_lowestPoint_4 : decode cX9_lowestPoint 4 = .ok (.iload_n 2, 1) := by decide +kernel
theorem dX9_lowestPoint_5 : decode cX9_lowestPoint 5 = .ok (.iconst 0, 1) := by decide +kernel
theorem dX9_lowestPoint_6 : decode cX9_lowestPoint 6 = .ok (.invokevirtual 69, 3) := by decide +kernel
theorem dX9_lowestPoint_9 : decode cX9_lowestPoint 9 = .ok (.lstore 4, 2) := by decide +kernel
theorem dX9_lowestPoint_11 : decode cX9_lowestPoint 11 = .ok (.iconst 1, 1) := by decide +kernel
theorem dX9_lowestPoint_12 : decode cX9_lowestPoint 12 = .ok (.istore 6, 2) := by decide +kernel
theorem dX9_lowestPoint_14 : decode cX9_lowestPoint 14 = .ok (.iload 6, 2) := by decide +kernel
theorem dX9_lowestPoint_16 : decode cX9_lowestPoint 16 = .ok (.iload_n 1, 1) := by decide +kernel
theorem dX9_lowestPoint_17 : decode cX9_lowestPoint 17 = .ok (.iload_n 2, 1) := by decide +kernel
theorem dX9_lowestPoint_18 : decode cX9_lowestPoint 18 = .ok (.invokestatic 45, 3) := by decide +kernel
theorem dX9_lowestPoint_21 : decode cX9_lowestPoint 21 = .ok (.if_icmp .ge 34, 3) := by decide +kernel
theorem dX9_lowestPoint_24 : decode cX9_lowestPoint 24 = .ok (.aload_n 0, 1) := by decide +kernel
theorem dX9_lowestPoint_25 : decode cX9_lowestPoint 25 = .ok (.iload_n 1, 1) := by decide +kernel
theorem dX9_lowestPoint_26 : decode cX9_lowestPoint 26 = .ok (.iload_n 2, 1) := by decide +kernel
theorem dX9_lowestPoint_27 : decode cX9_lowestPoint 27 = .ok (.iload 6, 2) := by decide +kernel
theorem dX9_lowestPoint_29 : decode cX9_lowestPoint 29 = .ok (.invokevirtual 69, 3) := by decide +kernel
theorem dX9_lowestPoint_32 : decode cX9_lowestPoint 32 = .ok (.lstore 7, 2) := by decide +kernel
theorem dX9_lowestPoint_34 : decode cX9_lowestPoint 34 = .ok (.lload 7, 2) := by decide +kernel
theorem dX9_lowestPoint_36 : decode cX9_lowestPoint 36 = .ok (.lload 4, 2) := by decide +kernel
theorem dX9_lowestPoint_38 : decode cX9_lowestPoint 38 = .ok (.lcmp, 1) := by decide +kernel
theorem dX9_lowestPoint_39 : decode cX9_lowestPoint 39 = .ok (.ifCond .ge 10, 3) := by decide +kernel
theorem dX9_lowestPoint_42 : decode cX9_lowestPoint 42 = .ok (.iload 6, 2) := by decide +kernel
theorem dX9_lowestPoint_44 : decode cX9_lowestPoint 44 = .ok (.istore_n 3, 1) := by decide +kernel
theorem dX9_lowestPoint_45 : decode cX9_lowestPoint 45 = .ok (.lload 7, 2) := by decide +kernel
theorem dX9_lowestPoint_47 : decode cX9_lowestPoint 47 = .ok (.lstore 4, 2) := by decide +kernel
theorem dX9_lowestPoint_49 : decode cX9_lowestPoint 49 = .ok (.iinc 6 1, 3) := by decide +kernel
theorem dX9_lowestPoint_52 : decode cX9_lowestPoint 52 = .ok (.goto (-38), 3) := by decide +kernel
theorem dX9_lowestPoint_55 : decode cX9_lowestPoint 55 = .ok (.iload_n 3, 1) := by decide +kernel
theorem dX9_lowestPoint_56 : decode cX9_lowestPoint 56 = .ok (.ireturn, 1) := by decide +kernel
theorem dX9_pointsAbove_0 : decode cX9_pointsAbove 0 = .ok (.iconst 0, 1) := by decide +kernel
theorem dX9_pointsAbove_1 : decode cX9_pointsAbove 1 = .ok (.istore_n 3, 1) := by decide +kernel
theorem dX9_pointsAbove_2 : decode cX9_pointsAbove 2 = .ok (.iconst 0, 1) := by decide +kernel
theorem dX9_pointsAbove_3 : decode cX9_pointsAbove 3 = .ok (.istore 4, 2) := by decide +kernel
theorem dX9_pointsAbove_5 : decode cX9_pointsAbove 5 = .ok (.iload 4, 2) := by decide +kernel
theorem dX9_pointsAbove_7 : decode cX9_pointsAbove 7 = .ok (.iload_n 1, 1) := by decide +kernel
theorem dX9_pointsAbove_8 : decode cX9_pointsAbove 8 = .ok (.iload_n 2, 1) := by decide +kernel
theorem dX9_pointsAbove_9 : decode cX9_pointsAbove 9 = .ok (.invokestatic 45, 3) := by decide +kernel
theorem dX9_pointsAbove_12 : decode cX9_pointsAbove 12 = .ok (.if_icmp .ge 25, 3) := by decide +kernel
theorem dX9_pointsAbove_15 : decode cX9_pointsAbove 15 = .ok (.aload_n 0, 1) := by decide +kernel
theorem dX9_pointsAbove_16 : decode cX9_pointsAbove 16 = .ok (.iload_n 1, 1) := by decide +kernel
theorem dX9_pointsAbove_17 : decode cX9_pointsAbove 17 = .ok (.iload_n 2, 1) := by decide +kernel
theorem dX9_pointsAbove_18 : decode cX9_pointsAbove 18 = .ok (.iload 4, 2) := by decide +kernel
theorem dX9_pointsAbove_20 : decode cX9_pointsAbove 20 = .ok (.invokevirtual 69, 3) := by decide +kernel
theorem dX9_pointsAbove_23 : decode cX9_pointsAbove 23 = .ok (.lconst 0, 1) := by decide +kernel
theorem dX9_pointsAbove_24 : decode cX9_pointsAbove 24 = .ok (.lcmp, 1) := by decide +kernel
theorem dX9_pointsAbove_25 : decode cX9_pointsAbove 25 = .ok (.ifCond .le 6, 3) := by decide +kernel
theorem dX9_pointsAbove_28 : decode cX9_pointsAbove 28 = .ok (.iinc 3 1, 3) := by decide +kernel
theorem dX9_pointsAbove_31 : decode cX9_pointsAbove 31 = .ok (.iinc 4 1, 3) := by decide +kernel
theorem dX9_pointsAbove_34 : decode cX9_pointsAbove 34 = .ok (.goto (-29), 3) := by decide +kernel
theorem dX9_pointsAbove_37 : decode cX9_pointsAbove 37 = .ok (.iload_n 3, 1) := by decide +kernel
theorem dX9_pointsAbove_38 : decode cX9_pointsAbove 38 = .ok (.ireturn, 1) := by decide +kernel
theorem dX10_refuse_0 : decode cX10_refuse 0 = .ok (.iload_n 1, 1) := by decide +kernel
theorem dX10_refuse_1 : decode cX10_refuse 1 = .ok (.ifCond .ge 20, 3) := by decide +kernel
theorem dX10_refuse_4 : decode cX10_refuse 4 = .ok (.iload_n 1, 1) := by decide +kernel
theorem dX10_refuse_5 : decode cX10_refuse 5 = .ok (.bipush (-6), 2) := by decide +kernel
theorem dX10_refuse_7 : decode cX10_refuse 7 = .ok (.if_icmp .lt 14, 3) := by decide +kernel
theorem dX10_refuse_10 : decode cX10_refuse 10 = .ok (.aload_n 0, 1) := by decide +kernel
theorem dX10_refuse_11 : decode cX10_refuse 11 = .ok (.getfield 65, 3) := by decide +kernel
theorem dX10_refuse_14 : decode cX10_refuse 14 = .ok (.iload_n 1, 1) := by decide +kernel
theorem dX10_refuse_15 : decode cX10_refuse 15 = .ok (.ineg, 1) := by decide +kernel
theorem dX10_refuse_16 : decode cX10_refuse 16 = .ok (.dup2, 1) := by decide +kernel
theorem dX10_refuse_17 : decode cX10_refuse 17 = .ok (.iaload, 1) := by decide +kernel
theorem dX10_refuse_18 : decode cX10_refuse 18 = .ok (.iconst 1, 1) := by decide +kernel
theorem dX10_refuse_19 : decode cX10_refuse 19 = .ok (.iadd, 1) := by decide +kernel
theorem dX10_refuse_20 : decode cX10_refuse 20 = .ok (.iastore, 1) := by decide +kernel
theorem dX10_refuse_21 : decode cX10_refuse 21 = .ok (.iload_n 1, 1) := by decide +kernel
theorem dX10_refuse_22 : decode cX10_refuse 22 = .ok (.ireturn, 1) := by decide +kernel
theorem dX10_letter_0 : decode cX10_letter 0 = .ok (.iload_n 1, 1) := by decide +kernel
theorem dX10_letter_1 : decode cX10_letter 1 = .ok (.ifCond .ge 10, 3) := by decide +kernel
theorem dX10_letter_4 : decode cX10_letter 4 = .ok (.aload_n 0, 1) := by decide +kernel
theorem dX10_letter_5 : decode cX10_letter 5 = .ok (.bipush (-4), 2) := by decide +kernel
theorem dX10_letter_7 : decode cX10_letter 7 = .ok (.invokevirtual 69, 3) := by decide +kernel
theorem dX10_letter_10 : decode cX10_letter 10 = .ok (.ireturn, 1) := by decide +kernel
theorem dX10_letter_11 : decode cX10_letter 11 = .ok (.iload_n 1, 1) := by decide +kernel
theorem dX10_letter_12 : decode cX10_letter 12 = .ok (.sipush 255, 3) := by decide +kernel
theorem dX10_letter_15 : decode cX10_letter 15 = .ok (.if_icmp .gt 15, 3) := by decide +kernel
theorem dX10_letter_18 : decode cX10_letter 18 = .ok (.aload_n 0, 1) := by decide +kernel
theorem dX10_letter_19 : decode cX10_letter 19 = .ok (.getfield 19, 3) := by decide +kernel
theorem dX10_letter_22 : decode cX10_letter 22 = .ok (.getfield 73, 3) := by decide +kernel
theorem dX10_letter_25 : decode cX10_letter 25 = .ok (.bipush 72, 2) := by decide +kernel
theorem dX10_letter_27 : decode cX10_letter 27 = .ok (.if_icmp .lt 10, 3) := by decide +kernel
theorem dX10_letter_30 : decode cX10_letter 30 = .ok (.aload_n 0, 1) := by decide +kernel
theorem dX10_letter_31 : decode cX10_letter 31 = .ok (.bipush (-6), 2) := by decide +kernel
theorem dX10_letter_33 : decode cX10_letter 33 = .ok (.invokevirtual 69, 3) := by decide +kernel
theorem dX10_letter_36 : decode cX10_letter 36 = .ok (.ireturn, 1) := by decide +kernel
theorem dX10_letter_37 : decode cX10_letter 37 = .ok (.aload_n 0, 1) := by decide +kernel
theorem dX10_letter_38 : decode cX10_letter 38 = .ok (.getfield 19, 3) := by decide +kernel
theorem dX10_letter_41 : decode cX10_letter 41 = .ok (.iload_n 1, 1) := by decide +kernel
theorem dX10_letter_42 : decode cX10_letter 42 = .ok (.invokevirtual 77, 3) := by decide +kernel
theorem dX10_letter_45 : decode cX10_letter 45 = .ok (.aload_n 0, 1) := by decide +kernel
theorem dX10_letter_46 : decode cX10_letter 46 = .ok (.getfield 19, 3) := by decide +kernel
theorem dX10_letter_49 : decode cX10_letter 49 = .ok (.getfield 73, 3) := by decide +kernel
theorem dX10_letter_52 : decode cX10_letter 52 = .ok (.ireturn, 1) := by decide +kernel
theorem dX10_cameOr_0 : decode cX10_cameOr 0 = .ok (.iload_n 1, 1) := by decide +kernel
theorem dX10_cameOr_1 : decode cX10_cameOr 1 = .ok (.ifCond .ne 10, 3) := by decide +kernel
theorem dX10_cameOr_4 : decode cX10_cameOr 4 = .ok (.aload_n 0, 1) := by decide +kernel
theorem dX10_cameOr_5 : decode cX10_cameOr 5 = .ok (.bipush (-6), 2) := by decide +kernel
theorem dX10_cameOr_7 : decode cX10_cameOr 7 = .ok (.invokevirtual 69, 3) := by decide +kernel
theorem dX10_cameOr_10 : decode cX10_cameOr 10 = .ok (.ireturn, 1) := by decide +kernel
theorem dX10_cameOr_11 : decode cX10_cameOr 11 = .ok (.aload_n 0, 1) := by decide +kernel
theorem dX10_cameOr_12 : decode cX10_cameOr 12 = .ok (.getfield 54, 3) := by decide +kernel
theorem dX10_cameOr_15 : decode cX10_cameOr 15 = .ok (.iconst 0, 1) := by decide +kernel
theorem dX10_cameOr_16 : decode cX10_cameOr 16 = .ok (.putfield 105, 3) := by decide +kernel
theorem dX10_cameOr_19 : decode cX10_cameOr 19 = .ok (.aload_n 0, 1) := by decide +kernel
theorem dX10_cameOr_20 : decode cX10_cameOr 20 = .ok (.getfield 10, 3) := by decide +kernel
theorem dX10_cameOr_23 : decode cX10_cameOr 23 = .ok (.getfield 89, 3) := by decide +kernel
theorem dX10_cameOr_26 : decode cX10_cameOr 26 = .ok (.iconst 1, 1) := by decide +kernel
theorem dX10_cameOr_27 : decode cX10_cameOr 27 = .ok (.isub, 1) := by decide +kernel
theorem dX10_cameOr_28 : decode cX10_cameOr 28 = .ok (.ireturn, 1) := by decide +kernel
theorem dX10_form_0 : decode cX10_form 0 = .ok (.aload_n 0, 1) := by decide +kernel
theorem dX10_form_1 : decode cX10_form 1 = .ok (.getfield 10, 3) := by decide +kernel
theorem dX10_form_4 : decode cX10_form 4 = .ok (.invokevirtual 81, 3) := by decide +kernel
theorem dX10_form_7 : decode cX10_form 7 = .ok (.ifCond .eq 10, 3) := by decide +kernel
theorem dX10_form_10 : decode cX10_form 10 = .ok (.aload_n 0, 1) := by decide +kernel
theorem dX10_form_11 : decode cX10_form 11 = .ok (.bipush (-6), 2) := by decide +kernel
theorem dX10_form_13 : decode cX10_form 13 = .ok (.invokevirtual 69, 3) := by decide +kernel
theorem dX10_form_16 : decode cX10_form 16 = .ok (.ireturn, 1) := by decide +kernel
theorem dX10_form_17 : decode cX10_form 17 = .ok (.aload_n 0, 1) := by decide +kernel
theorem dX10_form_18 : decode cX10_form 18 = .ok (.getfield 26, 3) := by decide +kernel
theorem dX10_form_21 : decode cX10_form 21 = .ok (.aload_n 0, 1) := by decide +kernel
theorem dX10_form_22 : decode cX10_form 22 = .ok (.getfield 19, 3) := by decide +kernel
theorem dX10_form_25 : decode cX10_form 25 = .ok (.aload_n 0, 1) := by decide +kernel
theorem dX10_form_26 : decode cX10_form 26 = .ok (.getfield 10, 3) := by decide +kernel
theorem dX10_form_29 : decode cX10_form 29 = .ok (.getfield 85, 3) := by decide +kernel
theorem dX10_form_32 : decode cX10_form 32 = .ok (.aload_n 0, 1) := by decide +kernel
theorem dX10_form_33 : decode cX10_form 33 = .ok (.getfield 10, 3) := by decide +kernel
theorem dX10_form_36 : decode cX10_form 36 = .ok (.getfield 89, 3) := by decide +kernel
theorem dX10_form_39 : decode cX10_form 39 = .ok (.aaload, 1) := by decide +kernel
theorem dX10_form_40 : decode cX10_form 40 = .ok (.invokevirtual 90, 3) := by decide +kernel
theorem dX10_form_43 : decode cX10_form 43 = .ok (.istore_n 1, 1) := by decide +kernel
theorem dX10_form_44 : decode cX10_form 44 = .ok (.aload_n 0, 1) := by decide +kernel
theorem dX10_form_45 : decode cX10_form 45 = .ok (.getfield 19, 3) := by decide +kernel
theorem dX10_form_48 : decode cX10_form 48 = .ok (.iconst 0, 1) := by decide +kernel
theorem dX10_form_49 : decode cX10_form 49 = .ok (.putfield 73, 3) := by decide +kernel
theorem dX10_form_52 : decode cX10_form 52 = .ok (.iload_n 1, 1) := by decide +kernel
theorem dX10_form_53 : decode cX10_form 53 = .ok (.iconst (-1), 1) := by decide +kernel
theorem dX10_form_54 : decode cX10_form 54 = .ok (.if_icmp .eq 9, 3) := by decide +kernel
theorem dX10_form_57 : decode cX10_form 57 = .ok (.sipush (-1000), 3) := by decide +kernel
theorem dX10_form_60 : decode cX10_form 60 = .ok (.iload_n 1, 1) := by decide +kernel
theorem dX10_form_61 : decode cX10_form 61 = .ok (.isub, 1) := by decide +kernel
theorem dX10_form_62 : decode cX10_form 62 = .ok (.ireturn, 1) := by decide +kernel
theorem dX10_form_63 : decode cX10_form 63 = .ok (.aload_n 0, 1) := by decide +kernel
theorem dX10_form_64 : decode cX10_form 64 = .ok (.getfield 10, 3) := by decide +kernel
theorem dX10_form_67 : decode cX10_form 67 = .ok (.dup, 1) := by decide +kernel
theorem dX10_form_68 : decode cX10_form 68 = .ok (.getfield 89, 3) := by decide +kernel
theorem dX10_form_71 : decode cX10_form 71 = .ok (.iconst 1, 1) := by decide +kernel
theorem dX10_form_72 : decode cX10_form 72 = .ok (.iadd, 1) := by decide +kernel
theorem dX10_form_73 : decode cX10_form 73 = .ok (.putfield 89, 3) := by decide +kernel
theorem dX10_form_76 : decode cX10_form 76 = .ok (.aload_n 0, 1) := by decide +kernel
theorem dX10_form_77 : decode cX10_form 77 = .ok (.iconst 1, 1) := by decide +kernel
theorem dX10_form_78 : decode cX10_form 78 = .ok (.invokevirtual 94, 3) := by decide +kernel
theorem dX10_form_81 : decode cX10_form 81 = .ok (.ireturn, 1) := by decide +kernel
theorem dX10_acts_0 : decode cX10_acts 0 = .ok (.aload_n 0, 1) := by decide +kernel
theorem dX10_acts_1 : decode cX10_acts 1 = .ok (.getfield 33, 3) := by decide +kernel
theorem dX10_acts_4 : decode cX10_acts 4 = .ok (.aload_n 0, 1) := by decide +kernel
theorem dX10_acts_5 : decode cX10_acts 5 = .ok (.getfield 19, 3) := by decide +kernel
theorem dX10_acts_8 : decode cX10_acts 8 = .ok (.invokevirtual 98, 3) := by decide +kernel
theorem dX10_acts_11 : decode cX10_acts 11 = .ok (.istore_n 1, 1) := by decide +kernel
theorem dX10_acts_12 : decode cX10_acts 12 = .ok (.aload_n 0, 1) := by decide +kernel
theorem dX10_acts_13 : decode cX10_acts 13 = .ok (.getfield 19, 3) := by decide +kernel
theorem dX10_acts_16 : decode cX10_acts 16 = .ok (.iconst 0, 1) := by decide +kernel
theorem dX10_acts_17 : decode cX10_acts 17 = .ok (.putfield 73, 3) := by decide +kernel
theorem dX10_acts_20 : decode cX10_acts 20 = .ok (.iload_n 1, 1) := by decide +kernel
theorem dX10_acts_21 : decode cX10_acts 21 = .ok (.iconst (-1), 1) := by decide +kernel
theorem dX10_acts_22 : decode cX10_acts 22 = .ok (.if_icmp .eq 9, 3) := by decide +kernel
theorem dX10_acts_25 : decode cX10_acts 25 = .ok (.sipush (-1000), 3) := by decide +kernel
theorem dX10_acts_28 : decode cX10_acts 28 = .ok (.iload_n 1, 1) := by decide +kernel
theorem dX10_acts_29 : decode cX10_acts 29 = .ok (.isub, 1) := by decide +kernel
theorem dX10_acts_30 : decode cX10_acts 30 = .ok (.ireturn, 1) := by decide +kernel
theorem dX10_acts_31 : decode cX10_acts 31 = .ok (.aload_n 0, 1) := by decide +kernel
theorem dX10_acts_32 : decode cX10_acts 32 = .ok (.getfield 10, 3) := by decide +kernel
theorem dX10_acts_35 : decode cX10_acts 35 = .ok (.aload_n 0, 1) := by decide +kernel
theorem dX10_acts_36 : decode cX10_acts 36 = .ok (.getfield 33, 3) := by decide +kernel
theorem dX10_acts_39 : decode cX10_acts 39 = .ok (.invokevirtual 101, 3) := by decide +kernel
theorem dX10_acts_42 : decode cX10_acts 42 = .ok (.istore_n 1, 1) := by decide +kernel
theorem dX10_acts_43 : decode cX10_acts 43 = .ok (.iload_n 1, 1) := by decide +kernel
theorem dX10_acts_44 : decode cX10_acts 44 = .ok (.iconst (-1), 1) := by decide +kernel
theorem dX10_acts_45 : decode cX10_acts 45 = .ok (.if_icmp .eq 9, 3) := by decide +kernel
theorem dX10_acts_48 : decode cX10_acts 48 = .ok (.sipush (-2000), 3) := by decide +kernel
theorem dX10_acts_51 : decode cX10_acts 51 = .ok (.iload_n 1, 1) := by decide +kernel
theorem dX10_acts_52 : decode cX10_acts 52 = .ok (.isub, 1) := by decide +kernel
theorem dX10_acts_53 : decode cX10_acts 53 = .ok (.ireturn, 1) := by decide +kernel
theorem dX10_acts_54 : decode cX10_acts 54 = .ok (.aload_n 0, 1) := by decide +kernel
theorem dX10_acts_55 : decode cX10_acts 55 = .ok (.getfield 54, 3) := by decide +kernel
theorem dX10_acts_58 : decode cX10_acts 58 = .ok (.iconst 0, 1) := by decide +kernel
theorem dX10_acts_59 : decode cX10_acts 59 = .ok (.putfield 105, 3) := by decide +kernel
theorem dX10_acts_62 : decode cX10_acts 62 = .ok (.aload_n 0, 1) := by decide +kernel
theorem dX10_acts_63 : decode cX10_acts 63 = .ok (.getfield 33, 3) := by decide +kernel
theorem dX10_acts_66 : decode cX10_acts 66 = .ok (.getfield 106, 3) := by decide +kernel
theorem dX10_acts_69 : decode cX10_acts 69 = .ok (.ireturn, 1) := by decide +kernel
theorem dX10_drop_0 : decode cX10_drop 0 = .ok (.aload_n 0, 1) := by decide +kernel
theorem dX10_drop_1 : decode cX10_drop 1 = .ok (.getfield 10, 3) := by decide +kernel
theorem dX10_drop_4 : decode cX10_drop 4 = .ok (.getfield 89, 3) := by decide +kernel
theorem dX10_drop_7 : decode cX10_drop 7 = .ok (.ifCond .gt 10, 3) := by decide +kernel
theorem dX10_drop_10 : decode cX10_drop 10 = .ok (.aload_n 0, 1) := by decide +kernel
theorem dX10_drop_11 : decode cX10_drop 11 = .ok (.bipush (-3), 2) := by decide +kernel
theorem dX10_drop_13 : decode cX10_drop 13 = .ok (.invokevirtual 69, 3) := by decide +kernel
theorem dX10_drop_16 : decode cX10_drop 16 = .ok (.ireturn, 1) := by decide +kernel
theorem dX10_drop_17 : decode cX10_drop 17 = .ok (.aload_n 0, 1) := by decide +kernel
theorem dX10_drop_18 : decode cX10_drop 18 = .ok (.getfield 10, 3) := by decide +kernel
theorem dX10_drop_21 : decode cX10_drop 21 = .ok (.dup, 1) := by decide +kernel
theorem dX10_drop_22 : decode cX10_drop 22 = .ok (.getfield 89, 3) := by decide +kernel
theorem dX10_drop_25 : decode cX10_drop 25 = .ok (.iconst 1, 1) := by decide +kernel
theorem dX10_drop_26 : decode cX10_drop 26 = .ok (.isub, 1) := by decide +kernel
theorem dX10_drop_27 : decode cX10_drop 27 = .ok (.putfield 89, 3) := by decide +kernel
theorem dX10_drop_30 : decode cX10_drop 30 = .ok (.aload_n 0, 1) := by decide +kernel
theorem dX10_drop_31 : decode cX10_drop 31 = .ok (.getfield 54, 3) := by decide +kernel
theorem dX10_drop_34 : decode cX10_drop 34 = .ok (.iconst 0, 1) := by decide +kernel
theorem dX10_drop_35 : decode cX10_drop 35 = .ok (.putfield 105, 3) := by decide +kernel
theorem dX10_drop_38 : decode cX10_drop 38 = .ok (.aload_n 0, 1) := by decide +kernel
theorem dX10_drop_39 : decode cX10_drop 39 = .ok (.getfield 10, 3) := by decide +kernel
theorem dX10_drop_42 : decode cX10_drop 42 = .ok (.getfield 89, 3) := by decide +kernel
theorem dX10_drop_45 : decode cX10_drop 45 = .ok (.ireturn, 1) := by decide +kernel
theorem dX10_lacksTerm_0 : decode cX10_lacksTerm 0 = .ok (.iload_n 2, 1) := by decide +kernel
theorem dX10_lacksTerm_1 : decode cX10_lacksTerm 1 = .ok (.aload_n 0, 1) := by decide +kernel
theorem dX10_lacksTerm_2 : decode cX10_lacksTerm 2 = .ok (.getfield 10, 3) := by decide +kernel
theorem dX10_lacksTerm_5 : decode cX10_lacksTerm 5 = .ok (.getfield 85, 3) := by decide +kernel
theorem dX10_lacksTerm_8 : decode cX10_lacksTerm 8 = .ok (.iload_n 1, 1) := by decide +kernel
theorem dX10_lacksTerm_9 : decode cX10_lacksTerm 9 = .ok (.aaload, 1) := by decide +kernel
theorem dX10_lacksTerm_10 : decode cX10_lacksTerm 10 = .ok (.getfield 137, 3) := by decide +kernel
theorem dX10_lacksTerm_13 : decode cX10_lacksTerm 13 = .ok (.invokestatic 140, 3) := by decide +kernel
theorem dX10_lacksTerm_16 : decode cX10_lacksTerm 16 = .ok (.invokestatic 128, 3) := by decide +kernel
theorem dX10_lacksTerm_19 : decode cX10_lacksTerm 19 = .ok (.ireturn, 1) := by decide +kernel
theorem dX10_refuseFarInt_0 : decode cX10_refuseFarInt 0 = .ok (.ldc_w 300, 3) := by decide +kernel
theorem dX10_refuseFarInt_3 : decode cX10_refuseFarInt 3 = .ok (.aload_n 0, 1) := by decide +kernel
theorem dX10_refuseFarInt_4 : decode cX10_refuseFarInt 4 = .ok (.iload_n 1, 1) := by decide +kernel
theorem dX10_refuseFarInt_5 : decode cX10_refuseFarInt 5 = .ok (.invokevirtual 69, 3) := by decide +kernel
theorem dX10_refuseFarInt_8 : decode cX10_refuseFarInt 8 = .ok (.isub, 1) := by decide +kernel
theorem dX10_refuseFarInt_9 : decode cX10_refuseFarInt 9 = .ok (.ireturn, 1) := by decide +kernel
