theorem dX1_makeNought_0 : decode cX1_makeNought 0 = .ok (.aload_n 0, 1) := by decide +kernel
theorem dX1_makeNought_1 : decode cX1_makeNought 1 = .ok (.iconst 0, 1) := by decide +kernel
theorem dX1_makeNought_2 : decode cX1_makeNought 2 = .ok (.putfield 15, 3) := by decide +kernel
theorem dX1_makeNought_5 : decode cX1_makeNought 5 = .ok (.aload_n 0, 1) := by decide +kernel
theorem dX1_makeNought_6 : decode cX1_makeNought 6 = .ok (.iconst 0, 1) := by decide +kernel
theorem dX1_makeNought_7 : decode cX1_makeNought 7 = .ok (.putfield 19, 3) := by decide +kernel
theorem dX1_makeNought_10 : decode cX1_makeNought 10 = .ok (.aload_n 0, 1) := by decide +kernel
theorem dX1_makeNought_11 : decode cX1_makeNought 11 = .ok (.iconst 0, 1) := by decide +kernel
theorem dX1_makeNought_12 : decode cX1_makeNought 12 = .ok (.putfield 22, 3) := by decide +kernel
theorem dX1_makeNought_15 : decode cX1_makeNought 15 = .ok (.iconst 0, 1) := by decide +kernel
theorem dX1_makeNought_16 : decode cX1_makeNought 16 = .ok (.istore_n 1, 1) := by decide +kernel
theorem dX1_makeNought_17 : decode cX1_makeNought 17 = .ok (.iload_n 1, 1) := by decide +kernel
theorem dX1_makeNought_18 : decode cX1_makeNought 18 = .ok (.bipush 28, 2) := by decide +kernel
theorem dX1_makeNought_20 : decode cX1_makeNought 20 = .ok (.if_icmp .ge 16, 3) := by decide +kernel
theorem dX1_makeNought_23 : decode cX1_makeNought 23 = .ok (.aload_n 0, 1) := by decide +kernel
theorem dX1_makeNought_24 : decode cX1_makeNought 24 = .ok (.getfield 9, 3) := by decide +kernel
theorem dX1_makeNought_27 : decode cX1_makeNought 27 = .ok (.iload_n 1, 1) := by decide +kernel
theorem dX1_makeNought_28 : decode cX1_makeNought 28 = .ok (.iconst 0, 1) := by decide +kernel
theorem dX1_makeNought_29 : decode cX1_makeNought 29 = .ok (.iastore, 1) := by decide +kernel
theorem dX1_makeNought_30 : decode cX1_makeNought 30 = .ok (.iinc 1 1, 3) := by decide +kernel
theorem dX1_makeNought_33 : decode cX1_makeNought 33 = .ok (.goto (-16), 3) := by decide +kernel
theorem dX1_makeNought_36 : decode cX1_makeNought 36 = .ok (.return_, 1) := by decide +kernel
theorem dX1_copyOf_0 : decode cX1_copyOf 0 = .ok (.aload_n 0, 1) := by decide +kernel
theorem dX1_copyOf_1 : decode cX1_copyOf 1 = .ok (.aload_n 1, 1) := by decide +kernel
theorem dX1_copyOf_2 : decode cX1_copyOf 2 = .ok (.getfield 15, 3) := by decide +kernel
theorem dX1_copyOf_5 : decode cX1_copyOf 5 = .ok (.putfield 15, 3) := by decide +kernel
theorem dX1_copyOf_8 : decode cX1_copyOf 8 = .ok (.aload_n 0, 1) := by decide +kernel
theorem dX1_copyOf_9 : decode cX1_copyOf 9 = .ok (.aload_n 1, 1) := by decide +kernel
theorem dX1_copyOf_10 : decode cX1_copyOf 10 = .ok (.getfield 19, 3) := by decide +kernel
theorem dX1_copyOf_13 : decode cX1_copyOf 13 = .ok (.putfield 19, 3) := by decide +kernel
theorem dX1_copyOf_16 : decode cX1_copyOf 16 = .ok (.aload_n 0, 1) := by decide +kernel
theorem dX1_copyOf_17 : decode cX1_copyOf 17 = .ok (.aload_n 1, 1) := by decide +kernel
theorem dX1_copyOf_18 : decode cX1_copyOf 18 = .ok (.getfield 22, 3) := by decide +kernel
theorem dX1_copyOf_21 : decode cX1_copyOf 21 = .ok (.putfield 22, 3) := by decide +kernel
theorem dX1_copyOf_24 : decode cX1_copyOf 24 = .ok (.iconst 0, 1) := by decide +kernel
theorem dX1_copyOf_25 : decode cX1_copyOf 25 = .ok (.istore_n 2, 1) := by decide +kernel
theorem dX1_copyOf_26 : decode cX1_copyOf 26 = .ok (.iload_n 2, 1) := by decide +kernel
theorem dX1_copyOf_27 : decode cX1_copyOf 27 = .ok (.bipush 28, 2) := by decide +kernel
theorem dX1_copyOf_29 : decode cX1_copyOf 29 = .ok (.if_icmp .ge 21, 3) := by decide +kernel
theorem dX1_copyOf_32 : decode cX1_copyOf 32 = .ok (.aload_n 0, 1) := by decide +kernel
theorem dX1_copyOf_33 : decode cX1_copyOf 33 = .ok (.getfield 9, 3) := by decide +kernel
theorem dX1_copyOf_36 : decode cX1_copyOf 36 = .ok (.iload_n 2, 1) := by decide +kernel
theorem dX1_copyOf_37 : decode cX1_copyOf 37 = .ok (.aload_n 1, 1) := by decide +kernel
theorem dX1_copyOf_38 : decode cX1_copyOf 38 = .ok (.getfield 9, 3) := by decide +kernel
theorem dX1_copyOf_41 : decode cX1_copyOf 41 = .ok (.iload_n 2, 1) := by decide +kernel
theorem dX1_copyOf_42 : decode cX1_copyOf 42 = .ok (.iaload, 1) := by decide +kernel
theorem dX1_copyOf_43 : decode cX1_copyOf 43 = .ok (.iastore, 1) := by decide +kernel
theorem dX1_copyOf_44 : decode cX1_copyOf 44 = .ok (.iinc 2 1, 3) := by decide +kernel
theorem dX1_copyOf_47 : decode cX1_copyOf 47 = .ok (.goto (-21), 3) := by decide +kernel
theorem dX1_copyOf_50 : decode cX1_copyOf 50 = .ok (.return_, 1) := by decide +kernel
theorem dX10_termOf_0 : decode cX10_termOf 0 = .ok (.iload_n 0, 1) := by decide +kernel
theorem dX10_termOf_1 : decode cX10_termOf 1 = .ok (.iload_n 1, 1) := by decide +kernel
theorem dX10_termOf_2 : decode cX10_termOf 2 = .ok (.iadd, 1) := by decide +kernel
theorem dX10_termOf_3 : decode cX10_termOf 3 = .ok (.iload_n 0, 1) := by decide +kernel
theorem dX10_termOf_4 : decode cX10_termOf 4 = .ok (.iload_n 1, 1) := by decide +kernel
theorem dX10_termOf_5 : decode cX10_termOf 5 = .ok (.iadd, 1) := by decide +kernel
theorem dX10_termOf_6 : decode cX10_termOf 6 = .ok (.iconst 1, 1) := by decide +kernel
theorem dX10_termOf_7 : decode cX10_termOf 7 = .ok (.iadd, 1) := by decide +kernel
theorem dX10_termOf_8 : decode cX10_termOf 8 = .ok (.imul, 1) := by decide +kernel
theorem dX10_termOf_9 : decode cX10_termOf 9 = .ok (.iconst 2, 1) := by decide +kernel
theorem dX10_termOf_10 : decode cX10_termOf 10 = .ok (.idiv, 1) := by decide +kernel
theorem dX10_termOf_11 : decode cX10_termOf 11 = .ok (.iload_n 1, 1) := by decide +kernel
theorem dX10_termOf_12 : decode cX10_termOf 12 = .ok (.iadd, 1) := by decide +kernel
theorem dX10_termOf_13 : decode cX10_termOf 13 = .ok (.ireturn, 1) := by decide +kernel
theorem dX1_has_0 : decode cX1_has 0 = .ok (.aload_n 0, 1) := by decide +kernel
theorem dX1_has_1 : decode cX1_has 1 = .ok (.getfield 15, 3) := by decide +kernel
theorem dX1_has_4 : decode cX1_has 4 = .ok (.tableswitch 120 1 5 #[36, 47, 68, 84, 95], 36) := by decide +kernel
theorem dX1_has_40 : decode cX1_has 40 = .ok (.aload_n 0, 1) := by decide +kernel
theorem dX1_has_41 : decode cX1_has 41 = .ok (.getfield 9, 3) := by decide +kernel
theorem dX1_has_44 : decode cX1_has 44 = .ok (.iload_n 3, 1) := by decide +kernel
theorem dX1_has_45 : decode cX1_has 45 = .ok (.iload_n 1, 1) := by decide +kernel
theorem dX1_has_46 : decode cX1_has 46 = .ok (.invokestatic 25, 3) := by decide +kernel
theorem dX1_has_49 : decode cX1_has 49 = .ok (.iaload, 1) := by decide +kernel
theorem dX1_has_50 : decode cX1_has 50 = .ok (.ireturn, 1) := by decide +kernel
theorem dX1_has_51 : decode cX1_has 51 = .ok (.iload_n 1, 1) := by decide +kernel
theorem dX1_has_52 : decode cX1_has 52 = .ok (.iconst 2, 1) := by decide +kernel
theorem dX1_has_53 : decode cX1_has 53 = .ok (.irem, 1) := by decide +kernel
theorem dX1_has_54 : decode cX1_has 54 = .ok (.ifCond .eq 7, 3) := by decide +kernel
theorem dX1_has_57 : decode cX1_has 57 = .ok (.iconst 0, 1) := by decide +kernel
theorem dX1_has_58 : decode cX1_has 58 = .ok (.goto 13, 3) := by decide +kernel
theorem dX1_has_61 : decode cX1_has 61 = .ok (.aload_n 0, 1) := by decide +kernel
theorem dX1_has_62 : decode cX1_has 62 = .ok (.getfield 9, 3) := by decide +kernel
theorem dX1_has_65 : decode cX1_has 65 = .ok (.iload_n 2, 1) := by decide +kernel
theorem dX1_has_66 : decode cX1_has 66 = .ok (.iload_n 3, 1) := by decide +kernel
theorem dX1_has_67 : decode cX1_has 67 = .ok (.invokestatic 25, 3) := by decide +kernel
theorem dX1_has_70 : decode cX1_has 70 = .ok (.iaload, 1) := by decide +kernel
theorem dX1_has_71 : decode cX1_has 71 = .ok (.ireturn, 1) := by decide +kernel
theorem dX1_has_72 : decode cX1_has 72 = .ok (.aload_n 0, 1) := by decide +kernel
theorem dX1_has_73 : decode cX1_has 73 = .ok (.getfield 9, 3) := by decide +kernel
theorem dX1_has_76 : decode cX1_has 76 = .ok (.iload_n 2, 1) := by decide +kernel
theorem dX1_has_77 : decode cX1_has 77 = .ok (.iload_n 3, 1) := by decide +kernel
theorem dX1_has_78 : decode cX1_has 78 = .ok (.invokestatic 25, 3) := by decide +kernel
theorem dX1_has_81 : decode cX1_has 81 = .ok (.iaload, 1) := by decide +kernel
theorem dX1_has_82 : decode cX1_has 82 = .ok (.aload_n 0, 1) := by decide +kernel
theorem dX1_has_83 : decode cX1_has 83 = .ok (.getfield 19, 3) := by decide +kernel
theorem dX1_has_86 : decode cX1_has 86 = .ok (.isub, 1) := by decide +kernel
theorem dX1_has_87 : decode cX1_has 87 = .ok (.ireturn, 1) := by decide +kernel
theorem dX1_has_88 : decode cX1_has 88 = .ok (.aload_n 0, 1) := by decide +kernel
theorem dX1_has_89 : decode cX1_has 89 = .ok (.getfield 9, 3) := by decide +kernel
theorem dX1_has_92 : decode cX1_has 92 = .ok (.iload_n 1, 1) := by decide +kernel
theorem dX1_has_93 : decode cX1_has 93 = .ok (.iload_n 2, 1) := by decide +kernel
theorem dX1_has_94 : decode cX1_has 94 = .ok (.invokestatic 25, 3) := by decide +kernel
theorem dX1_has_97 : decode cX1_has 97 = .ok (.iaload, 1) := by decide +kernel
theorem dX1_has_98 : decode cX1_has 98 = .ok (.ireturn, 1) := by decide +kernel
theorem dX1_has_99 : decode cX1_has 99 = .ok (.iload_n 3, 1) := by decide +kernel
theorem dX1_has_100 : decode cX1_has 100 = .ok (.ifCond .ne 9, 3) := by decide +kernel
theorem dX1_has_103 : decode cX1_has 103 = .ok (.iload_n 1, 1) := by decide +kernel
theorem dX1_has_104 : decode cX1_has 104 = .ok (.iconst 2, 1) := by decide +kernel
theorem dX1_has_105 : decode cX1_has 105 = .ok (.irem, 1) := by decide +kernel
theorem dX1_has_106 : decode cX1_has 106 = .ok (.ifCond .eq 7, 3) := by decide +kernel
theorem dX1_has_109 : decode cX1_has 109 = .ok (.iconst 0, 1) := by decide +kernel
theorem dX1_has_110 : decode cX1_has 110 = .ok (.goto 13, 3) := by decide +kernel
theorem dX1_has_113 : decode cX1_has 113 = .ok (.aload_n 0, 1) := by decide +kernel
theorem dX1_has_114 : decode cX1_has 114 = .ok (.getfield 9, 3) := by decide +kernel
theorem dX1_has_117 : decode cX1_has 117 = .ok (.iload_n 2, 1) := by decide +kernel
theorem dX1_has_118 : decode cX1_has 118 = .ok (.iload_n 3, 1) := by decide +kernel
theorem dX1_has_119 : decode cX1_has 119 = .ok (.invokestatic 25, 3) := by decide +kernel
theorem dX1_has_122 : decode cX1_has 122 = .ok (.iaload, 1) := by decide +kernel
theorem dX1_has_123 : decode cX1_has 123 = .ok (.ireturn, 1) := by decide +kernel
theorem dX1_has_124 : decode cX1_has 124 = .ok (.aload_n 0, 1) := by decide +kernel
theorem dX1_has_125 : decode cX1_has 125 = .ok (.getfield 9, 3) := by decide +kernel
theorem dX1_has_128 : decode cX1_has 128 = .ok (.iload_n 2, 1) := by decide +kernel
theorem dX1_has_129 : decode cX1_has 129 = .ok (.iload_n 3, 1) := by decide +kernel
theorem dX1_has_130 : decode cX1_has 130 = .ok (.invokestatic 25, 3) := by decide +kernel
theorem dX1_has_133 : decode cX1_has 133 = .ok (.iaload, 1) := by decide +kernel
theorem dX1_has_134 : decode cX1_has 134 = .ok (.ireturn, 1) := by decide +kernel
theorem dX10_behindA_0 : decode cX10_behindA 0 = .ok (.iconst 0, 1) := by decide +kernel
theorem dX10_behindA_1 : decode cX10_behindA 1 = .ok (.istore_n 1, 1) := by decide +kernel
theorem dX10_behindA_2 : decode cX10_behindA 2 = .ok (.iload_n 1, 1) := by decide +kernel
theorem dX10_behindA_3 : decode cX10_behindA 3 = .ok (.bipush 18, 2) := by decide +kernel
theorem dX10_behindA_5 : decode cX10_behindA 5 = .ok (.if_icmp .ge 20, 3) := by decide +kernel
theorem dX10_behindA_8 : decode cX10_behindA 8 = .ok (.iload_n 1, 1) := by decide +kernel
theorem dX10_behindA_9 : decode cX10_behindA 9 = .ok (.iconst 1, 1) := by decide +kernel
theorem dX10_behindA_10 : decode cX10_behindA 10 = .ok (.iadd, 1) := by decide +kernel
theorem dX10_behindA_11 : decode cX10_behindA 11 = .ok (.iconst 0, 1) := by decide +kernel
theorem dX10_behindA_12 : decode cX10_behindA 12 = .ok (.invokestatic 310, 3) := by decide +kernel
theorem dX10_behindA_15 : decode cX10_behindA 15 = .ok (.iload_n 0, 1) := by decide +kernel
theorem dX10_behindA_16 : decode cX10_behindA 16 = .ok (.if_icmp .gt 9, 3) := by decide +kernel
theorem dX10_behindA_19 : decode cX10_behindA 19 = .ok (.iinc 1 1, 3) := by decide +kernel
theorem dX10_behindA_22 : decode cX10_behindA 22 = .ok (.goto (-20), 3) := by decide +kernel
theorem dX10_behindA_25 : decode cX10_behindA 25 = .ok (.iload_n 1, 1) := by decide +kernel
theorem dX10_behindA_26 : decode cX10_behindA 26 = .ok (.ireturn, 1) := by decide +kernel
theorem dX1_at_0 : decode cX1_at 0 = .ok (.iload_n 1, 1) := by decide +kernel
theorem dX1_at_1 : decode cX1_at 1 = .ok (.invokestatic 29, 3) := by decide +kernel
theorem dX1_at_4 : decode cX1_at 4 = .ok (.istore_n 2, 1) := by decide +kernel
theorem dX1_at_5 : decode cX1_at 5 = .ok (.iload_n 1, 1) := by decide +kernel
theorem dX1_at_6 : decode cX1_at 6 = .ok (.iload_n 2, 1) := by decide +kernel
theorem dX1_at_7 : decode cX1_at 7 = .ok (.iconst 0, 1) := by decide +kernel
theorem dX1_at_8 : decode cX1_at 8 = .ok (.invokestatic 25, 3) := by decide +kernel
theorem dX1_at_11 : decode cX1_at 11 = .ok (.isub, 1) := by decide +kernel
theorem dX1_at_12 : decode cX1_at 12 = .ok (.istore_n 3, 1) := by decide +kernel
theorem dX1_at_13 : decode cX1_at 13 = .ok (.aload_n 0, 1) := by decide +kernel
theorem dX1_at_14 : decode cX1_at 14 = .ok (.aload_n 0, 1) := by decide +kernel
theorem dX1_at_15 : decode cX1_at 15 = .ok (.getfield 22, 3) := by decide +kernel
theorem dX1_at_18 : decode cX1_at 18 = .ok (.iload_n 2, 1) := by decide +kernel
theorem dX1_at_19 : decode cX1_at 19 = .ok (.isub, 1) := by decide +kernel
theorem dX1_at_20 : decode cX1_at 20 = .ok (.iload_n 2, 1) := by decide +kernel
theorem dX1_at_21 : decode cX1_at 21 = .ok (.iload_n 3, 1) := by decide +kernel
theorem dX1_at_22 : decode cX1_at 22 = .ok (.isub, 1) := by decide +kernel
theorem dX1_at_23 : decode cX1_at 23 = .ok (.iload_n 3, 1) := by decide +kernel
theorem dX1_at_24 : decode cX1_at 24 = .ok (.invokevirtual 33, 3) := by decide +kernel
theorem dX1_at_27 : decode cX1_at 27 = .ok (.ireturn, 1) := by decide +kernel
theorem dX10_termsOf_0 : decode cX10_termsOf 0 = .ok (.iload_n 0, 1) := by decide +kernel
theorem dX10_termsOf_1 : decode cX10_termsOf 1 = .ok (.iconst 1, 1) := by decide +kernel
theorem dX10_termsOf_2 : decode cX10_termsOf 2 = .ok (.iadd, 1) := by decide +kernel
theorem dX10_termsOf_3 : decode cX10_termsOf 3 = .ok (.iload_n 0, 1) := by decide +kernel
theorem dX10_termsOf_4 : decode cX10_termsOf 4 = .ok (.iconst 2, 1) := by decide +kernel
theorem dX10_termsOf_5 : decode cX10_termsOf 5 = .ok (.iadd, 1) := by decide +kernel
theorem dX10_termsOf_6 : decode cX10_termsOf 6 = .ok (.imul, 1) := by decide +kernel
theorem dX10_termsOf_7 : decode cX10_termsOf 7 = .ok (.iconst 2, 1) := by decide +kernel
theorem dX10_termsOf_8 : decode cX10_termsOf 8 = .ok (.idiv, 1) := by decide +kernel
theorem dX10_termsOf_9 : decode cX10_termsOf 9 = .ok (.ireturn, 1) := by decide +kernel
theorem dX1_howMany_0 : decode cX1_howMany 0 = .ok (.iconst 0, 1) := by decide +kernel
theorem dX1_howMany_1 : decode cX1_howMany 1 = .ok (.istore_n 2, 1) := by decide +kernel
theorem dX1_howMany_2 : decode cX1_howMany 2 = .ok (.iconst 0, 1) := by decide +kernel
theorem dX1_howMany_3 : decode cX1_howMany 3 = .ok (.istore_n 3, 1) := by decide +kernel
theorem dX1_howMany_4 : decode cX1_howMany 4 = .ok (.iload_n 3, 1) := by decide +kernel
theorem dX1_howMany_5 : decode cX1_howMany 5 = .ok (.aload_n 0, 1) := by decide +kernel
theorem dX1_howMany_6 : decode cX1_howMany 6 = .ok (.getfield 22, 3) := by decide +kernel
theorem dX1_howMany_9 : decode cX1_howMany 9 = .ok (.invokestatic 37, 3) := by decide +kernel
theorem dX1_howMany_12 : decode cX1_howMany 12 = .ok (.if_icmp .ge 36, 3) := by decide +kernel
theorem dX1_howMany_15 : decode cX1_howMany 15 = .ok (.aload_n 0, 1) := by decide +kernel
theorem dX1_howMany_16 : decode cX1_howMany 16 = .ok (.iload_n 3, 1) := by decide +kernel
theorem dX1_howMany_17 : decode cX1_howMany 17 = .ok (.invokevirtual 40, 3) := by decide +kernel
theorem dX1_howMany_20 : decode cX1_howMany 20 = .ok (.istore 4, 2) := by decide +kernel
theorem dX1_howMany_22 : decode cX1_howMany 22 = .ok (.iload_n 1, 1) := by decide +kernel
theorem dX1_howMany_23 : decode cX1_howMany 23 = .ok (.ifCond .eq 11, 3) := by decide +kernel
theorem dX1_howMany_26 : decode cX1_howMany 26 = .ok (.iload 4, 2) := by decide +kernel
theorem dX1_howMany_28 : decode cX1_howMany 28 = .ok (.ifCond .ge 14, 3) := by decide +kernel
theorem dX1_howMany_31 : decode cX1_howMany 31 = .ok (.goto 8, 3) := by decide +kernel
theorem dX1_howMany_34 : decode cX1_howMany 34 = .ok (.iload 4, 2) := by decide +kernel
theorem dX1_howMany_36 : decode cX1_howMany 36 = .ok (.ifCond .ne 6, 3) := by decide +kernel
theorem dX1_howMany_39 : decode cX1_howMany 39 = .ok (.iinc 2 1, 3) := by decide +kernel
theorem dX1_howMany_42 : decode cX1_howMany 42 = .ok (.iinc 3 1, 3) := by decide +kernel
theorem dX1_howMany_45 : decode cX1_howMany 45 = .ok (.goto (-41), 3) := by decide +kernel
theorem dX1_howMany_48 : decode cX1_howMany 48 = .ok (.iload_n 2, 1) := by decide +kernel
theorem dX1_howMany_49 : decode cX1_howMany 49 = .ok (.ireturn, 1) := by decide +kernel
theorem dX10_notBelow_0 : decode cX10_notBelow 0 = .ok (.iload_n 0, 1) := by decide +kernel
theorem dX10_notBelow_1 : decode cX10_notBelow 1 = .ok (.ifCond .lt 8, 3) := by decide +kernel
theorem dX10_notBelow_4 : decode cX10_notBelow 4 = .ok (.iload_n 0, 1) := by decide +kernel
theorem dX10_notBelow_5 : decode cX10_notBelow 5 = .ok (.iload_n 1, 1) := by decide +kernel
theorem dX10_notBelow_6 : decode cX10_notBelow 6 = .ok (.if_icmp .lt 7, 3) := by decide +kernel
theorem dX10_notBelow_9 : decode cX10_notBelow 9 = .ok (.iconst 1, 1) := by decide +kernel
theorem dX10_notBelow_10 : decode cX10_notBelow 10 = .ok (.goto 4, 3) := by decide +kernel
theorem dX10_notBelow_13 : decode cX10_notBelow 13 = .ok (.iconst 0, 1) := by decide +kernel
theorem dX10_notBelow_14 : decode cX10_notBelow 14 = .ok (.ireturn, 1) := by decide +kernel
theorem dX3_at_0 : decode cX3_at 0 = .ok (.iload_n 1, 1) := by decide +kernel
theorem dX3_at_1 : decode cX3_at 1 = .ok (.aload_n 0, 1) := by decide +kernel
theorem dX3_at_2 : decode cX3_at 2 = .ok (.getfield 15, 3) := by decide +kernel
theorem dX3_at_5 : decode cX3_at 5 = .ok (.invokestatic 19, 3) := by decide +kernel
theorem dX3_at_8 : decode cX3_at 8 = .ok (.ifCond .eq 7, 3) := by decide +kernel
theorem dX3_at_11 : decode cX3_at 11 = .ok (.iconst (-1), 1) := by decide +kernel
theorem dX3_at_12 : decode cX3_at 12 = .ok (.goto 9, 3) := by decide +kernel
theorem dX3_at_15 : decode cX3_at 15 = .ok (.aload_n 0, 1) := by decide +kernel
theorem dX3_at_16 : decode cX3_at 16 = .ok (.getfield 9, 3) := by decide +kernel
theorem dX3_at_19 : decode cX3_at 19 = .ok (.iload_n 1, 1) := by decide +kernel
theorem dX3_at_20 : decode cX3_at 20 = .ok (.iaload, 1) := by decide +kernel
theorem dX3_at_21 : decode cX3_at 21 = .ok (.ireturn, 1) := by decide +kernel
theorem dX3_hasDigit_0 : decode cX3_hasDigit 0 = .ok (.aload_n 0, 1) := by decide +kernel
theorem dX3_hasDigit_1 : decode cX3_hasDigit 1 = .ok (.iload_n 1, 1) := by decide +kernel
theorem dX3_hasDigit_2 : decode cX3_hasDigit 2 = .ok (.invokevirtual 23, 3) := by decide +kernel
theorem dX3_hasDigit_5 : decode cX3_hasDigit 5 = .ok (.bipush 48, 2) := by decide +kernel
theorem dX3_hasDigit_7 : decode cX3_hasDigit 7 = .ok (.if_icmp .lt 17, 3) := by decide +kernel
theorem dX3_hasDigit_10 : decode cX3_hasDigit 10 = .ok (.aload_n 0, 1) := by decide +kernel
theorem dX3_hasDigit_11 : decode cX3_hasDigit 11 = .ok (.iload_n 1, 1) := by decide +kernel
theorem dX3_hasDigit_12 : decode cX3_hasDigit 12 = .ok (.invokevirtual 23, 3) := by decide +kernel
theorem dX3_hasDigit_15 : decode cX3_hasDigit 15 = .ok (.bipush 57, 2) := by decide +kernel
theorem dX3_hasDigit_17 : decode cX3_hasDigit 17 = .ok (.if_icmp .gt 7, 3) := by decide +kernel
theorem dX3_hasDigit_20 : decode cX3_hasDigit 20 = .ok (.iconst 1, 1) := by decide +kernel
theorem dX3_hasDigit_21 : decode cX3_hasDigit 21 = .ok (.goto 4, 3) := by decide +kernel
theorem dX3_hasDigit_24 : decode cX3_hasDigit 24 = .ok (.iconst 0, 1) := by decide +kernel
theorem dX3_hasDigit_25 : decode cX3_hasDigit 25 = .ok (.ireturn, 1) := by decide +kernel
theorem dX2_readNumber_0 : decode cX2_readNumber 0 = .ok (.aload_n 0, 1) := by decide +kernel
theorem dX2_readNumber_1 : decode cX2_readNumber 1 = .ok (.getfield 15, 3) := by decide +kernel
theorem dX2_readNumber_4 : decode cX2_readNumber 4 = .ok (.aload_n 0, 1) := by decide +kernel
theorem dX2_readNumber_5 : decode cX2_readNumber 5 = .ok (.getfield 19, 3) := by decide +kernel
theorem dX2_readNumber_8 : decode cX2_readNumber 8 = .ok (.invokevirtual 63, 3) := by decide +kernel
theorem dX2_readNumber_11 : decode cX2_readNumber 11 = .ok (.ifCond .ne 5, 3) := by decide +kernel
theorem dX2_readNumber_14 : decode cX2_readNumber 14 = .ok (.iconst 1, 1) := by decide +kernel
theorem dX2_readNumber_15 : decode cX2_readNumber 15 = .ok (.ireturn, 1) := by decide +kernel
theorem dX2_readNumber_16 : decode cX2_readNumber 16 = .ok (.iconst 0, 1) := by decide +kernel
theorem dX2_readNumber_17 : decode cX2_readNumber 17 = .ok (.istore_n 1, 1) := by decide +kernel
theorem dX2_readNumber_18 : decode cX2_readNumber 18 = .ok (.iconst 0, 1) := by decide +kernel
theorem dX2_readNumber_19 : decode cX2_readNumber 19 = .ok (.istore_n 2, 1) := by decide +kernel
theorem dX2_readNumber_20 : decode cX2_readNumber 20 = .ok (.iload_n 2, 1) := by decide +kernel
theorem dX2_readNumber_21 : decode cX2_readNumber 21 = .ok (.iconst 3, 1) := by decide +kernel
theorem dX2_readNumber_22 : decode cX2_readNumber 22 = .ok (.if_icmp .ge 53, 3) := by decide +kernel
theorem dX2_readNumber_25 : decode cX2_readNumber 25 = .ok (.aload_n 0, 1) := by decide +kernel
theorem dX2_readNumber_26 : decode cX2_readNumber 26 = .ok (.getfield 15, 3) := by decide +kernel
theorem dX2_readNumber_29 : decode cX2_readNumber 29 = .ok (.aload_n 0, 1) := by decide +kernel
theorem dX2_readNumber_30 : decode cX2_readNumber 30 = .ok (.getfield 19, 3) := by decide +kernel
theorem dX2_readNumber_33 : decode cX2_readNumber 33 = .ok (.invokevirtual 63, 3) := by decide +kernel
theorem dX2_readNumber_36 : decode cX2_readNumber 36 = .ok (.ifCond .eq 39, 3) := by decide +kernel
theorem dX2_readNumber_39 : decode cX2_readNumber 39 = .ok (.iload_n 1, 1) := by decide +kernel
theorem dX2_readNumber_40 : decode cX2_readNumber 40 = .ok (.bipush 10, 2) := by decide +kernel
theorem dX2_readNumber_42 : decode cX2_readNumber 42 = .ok (.imul, 1) := by decide +kernel
theorem dX2_readNumber_43 : decode cX2_readNumber 43 = .ok (.aload_n 0, 1) := by decide +kernel
theorem dX2_readNumber_44 : decode cX2_readNumber 44 = .ok (.getfield 15, 3) := by decide +kernel
theorem dX2_readNumber_47 : decode cX2_readNumber 47 = .ok (.aload_n 0, 1) := by decide +kernel
theorem dX2_readNumber_48 : decode cX2_readNumber 48 = .ok (.getfield 19, 3) := by decide +kernel
theorem dX2_readNumber_51 : decode cX2_readNumber 51 = .ok (.invokevirtual 31, 3) := by decide +kernel
theorem dX2_readNumber_54 : decode cX2_readNumber 54 = .ok (.iadd, 1) := by decide +kernel
theorem dX2_readNumber_55 : decode cX2_readNumber 55 = .ok (.bipush 48, 2) := by decide +kernel
theorem dX2_readNumber_57 : decode cX2_readNumber 57 = .ok (.isub, 1) := by decide +kernel
theorem dX2_readNumber_58 : decode cX2_readNumber 58 = .ok (.istore_n 1, 1) := by decide +kernel
theorem dX2_readNumber_59 : decode cX2_readNumber 59 = .ok (.aload_n 0, 1) := by decide +kernel
theorem dX2_readNumber_60 : decode cX2_readNumber 60 = .ok (.dup, 1) := by decide +kernel
theorem dX2_readNumber_61 : decode cX2_readNumber 61 = .ok (.getfield 19, 3) := by decide +kernel
theorem dX2_readNumber_64 : decode cX2_readNumber 64 = .ok (.iconst 1, 1) := by decide +kernel
theorem dX2_readNumber_65 : decode cX2_readNumber 65 = .ok (.iadd, 1) := by decide +kernel
theorem dX2_readNumber_66 : decode cX2_readNumber 66 = .ok (.putfield 19, 3) := by decide +kernel
theorem dX2_readNumber_69 : decode cX2_readNumber 69 = .ok (.iinc 2 1, 3) := by decide +kernel
theorem dX2_readNumber_72 : decode cX2_readNumber 72 = .ok (.goto (-52), 3) := by decide +kernel
theorem dX2_readNumber_75 : decode cX2_readNumber 75 = .ok (.iload_n 1, 1) := by decide +kernel
theorem dX2_readNumber_76 : decode cX2_readNumber 76 = .ok (.ireturn, 1) := by decide +kernel
theorem dX2_fits_0 : decode cX2_fits 0 = .ok (.aload_n 0, 1) := by decide +kernel
theorem dX2_fits_1 : decode cX2_fits 1 = .ok (.getfield 51, 3) := by decide +kernel
theorem dX2_fits_4 : decode cX2_fits 4 = .ok (.iload_n 1, 1) := by decide +kernel
theorem dX2_fits_5 : decode cX2_fits 5 = .ok (.iadd, 1) := by decide +kernel
theorem dX2_fits_6 : decode cX2_fits 6 = .ok (.aload_n 0, 1) := by decide +kernel
theorem dX2_fits_7 : decode cX2_fits 7 = .ok (.getfield 23, 3) := by decide +kernel
theorem dX2_fits_10 : decode cX2_fits 10 = .ok (.iconst (-1), 1) := by decide +kernel
theorem dX2_fits_11 : decode cX2_fits 11 = .ok (.if_icmp .ne 8, 3) := by decide +kernel
theorem dX2_fits_14 : decode cX2_fits 14 = .ok (.bipush 6, 2) := by decide +kernel
theorem dX2_fits_16 : decode cX2_fits 16 = .ok (.goto 7, 3) := by decide +kernel
theorem dX2_fits_19 : decode cX2_fits 19 = .ok (.aload_n 0, 1) := by decide +kernel
theorem dX2_fits_20 : decode cX2_fits 20 = .ok (.getfield 23, 3) := by decide +kernel
theorem dX2_fits_23 : decode cX2_fits 23 = .ok (.if_icmp .gt 7, 3) := by decide +kernel
theorem dX2_fits_26 : decode cX2_fits 26 = .ok (.iconst 1, 1) := by decide +kernel
theorem dX2_fits_27 : decode cX2_fits 27 = .ok (.goto 4, 3) := by decide +kernel
theorem dX2_fits_30 : decode cX2_fits 30 = .ok (.iconst 0, 1) := by decide +kernel
theorem dX2_fits_31 : decode cX2_fits 31 = .ok (.ireturn, 1) := by decide +kernel
theorem dX2_readPower_0 : decode cX2_readPower 0 = .ok (.aload_n 0, 1) := by decide +kernel
theorem dX2_readPower_1 : decode cX2_readPower 1 = .ok (.getfield 9, 3) := by decide +kernel
theorem dX2_readPower_4 : decode cX2_readPower 4 = .ok (.iload_n 1, 1) := by decide +kernel
theorem dX2_readPower_5 : decode cX2_readPower 5 = .ok (.iconst 0, 1) := by decide +kernel
theorem dX2_readPower_6 : decode cX2_readPower 6 = .ok (.iastore, 1) := by decide +kernel
theorem dX2_readPower_7 : decode cX2_readPower 7 = .ok (.aload_n 0, 1) := by decide +kernel
theorem dX2_readPower_8 : decode cX2_readPower 8 = .ok (.getfield 15, 3) := by decide +kernel
theorem dX2_readPower_11 : decode cX2_readPower 11 = .ok (.aload_n 0, 1) := by decide +kernel
theorem dX2_readPower_12 : decode cX2_readPower 12 = .ok (.getfield 19, 3) := by decide +kernel
theorem dX2_readPower_15 : decode cX2_readPower 15 = .ok (.invokevirtual 31, 3) := by decide +kernel
theorem dX2_readPower_18 : decode cX2_readPower 18 = .ok (.bipush 97, 2) := by decide +kernel
theorem dX2_readPower_20 : decode cX2_readPower 20 = .ok (.iload_n 1, 1) := by decide +kernel
theorem dX2_readPower_21 : decode cX2_readPower 21 = .ok (.iadd, 1) := by decide +kernel
theorem dX2_readPower_22 : decode cX2_readPower 22 = .ok (.if_icmp .eq 5, 3) := by decide +kernel
theorem dX2_readPower_25 : decode cX2_readPower 25 = .ok (.iconst 1, 1) := by decide +kernel
theorem dX2_readPower_26 : decode cX2_readPower 26 = .ok (.ireturn, 1) := by decide +kernel
theorem dX2_readPower_27 : decode cX2_readPower 27 = .ok (.aload_n 0, 1) := by decide +kernel
theorem dX2_readPower_28 : decode cX2_readPower 28 = .ok (.iconst 1, 1) := by decide +kernel
theorem dX2_readPower_29 : decode cX2_readPower 29 = .ok (.invokevirtual 66, 3) := by decide +kernel
theorem dX2_readPower_32 : decode cX2_readPower 32 = .ok (.ifCond .ne 5, 3) := by decide +kernel
theorem dX2_readPower_35 : decode cX2_readPower 35 = .ok (.iconst 0, 1) := by decide +kernel
theorem dX2_readPower_36 : decode cX2_readPower 36 = .ok (.ireturn, 1) := by decide +kernel
theorem dX2_readPower_37 : decode cX2_readPower 37 = .ok (.aload_n 0, 1) := by decide +kernel
theorem dX2_readPower_38 : decode cX2_readPower 38 = .ok (.dup, 1) := by decide +kernel
theorem dX2_readPower_39 : decode cX2_readPower 39 = .ok (.getfield 19, 3) := by decide +kernel
theorem dX2_readPower_42 : decode cX2_readPower 42 = .ok (.iconst 1, 1) := by decide +kernel
theorem dX2_readPower_43 : decode cX2_readPower 43 = .ok (.iadd, 1) := by decide +kernel
theorem dX2_readPower_44 : decode cX2_readPower 44 = .ok (.putfield 19, 3) := by decide +kernel
theorem dX2_readPower_47 : decode cX2_readPower 47 = .ok (.aload_n 0, 1) := by decide +kernel
theorem dX2_readPower_48 : decode cX2_readPower 48 = .ok (.getfield 9, 3) := by decide +kernel
theorem dX2_readPower_51 : decode cX2_readPower 51 = .ok (.iload_n 1, 1) := by decide +kernel
theorem dX2_readPower_52 : decode cX2_readPower 52 = .ok (.iconst 1, 1) := by decide +kernel
theorem dX2_readPower_53 : decode cX2_readPower 53 = .ok (.iastore, 1) := by decide +kernel
theorem dX2_readPower_54 : decode cX2_readPower 54 = .ok (.aload_n 0, 1) := by decide +kernel
theorem dX2_readPower_55 : decode cX2_readPower 55 = .ok (.getfield 15, 3) := by decide +kernel
theorem dX2_readPower_58 : decode cX2_readPower 58 = .ok (.aload_n 0, 1) := by decide +kernel
theorem dX2_readPower_59 : decode cX2_readPower 59 = .ok (.getfield 19, 3) := by decide +kernel
theorem dX2_readPower_62 : decode cX2_readPower 62 = .ok (.invokevirtual 31, 3) := by decide +kernel
theorem dX2_readPower_65 : decode cX2_readPower 65 = .ok (.bipush 94, 2) := by decide +kernel
theorem dX2_readPower_67 : decode cX2_readPower 67 = .ok (.if_icmp .ne 66, 3) := by decide +kernel
theorem dX2_readPower_70 : decode cX2_readPower 70 = .ok (.aload_n 0, 1) := by decide +kernel
theorem dX2_readPower_71 : decode cX2_readPower 71 = .ok (.dup, 1) := by decide +kernel
theorem dX2_readPower_72 : decode cX2_readPower 72 = .ok (.getfield 19, 3) := by decide +kernel
theorem dX2_readPower_75 : decode cX2_readPower 75 = .ok (.iconst 1, 1) := by decide +kernel
theorem dX2_readPower_76 : decode cX2_readPower 76 = .ok (.iadd, 1) := by decide +kernel
theorem dX2_readPower_77 : decode cX2_readPower 77 = .ok (.putfield 19, 3) := by decide +kernel
theorem dX2_readPower_80 : decode cX2_readPower 80 = .ok (.aload_n 0, 1) := by decide +kernel
theorem dX2_readPower_81 : decode cX2_readPower 81 = .ok (.getfield 15, 3) := by decide +kernel
theorem dX2_readPower_84 : decode cX2_readPower 84 = .ok (.aload_n 0, 1) := by decide +kernel
theorem dX2_readPower_85 : decode cX2_readPower 85 = .ok (.getfield 19, 3) := by decide +kernel
theorem dX2_readPower_88 : decode cX2_readPower 88 = .ok (.invokevirtual 31, 3) := by decide +kernel
theorem dX2_readPower_91 : decode cX2_readPower 91 = .ok (.bipush 48, 2) := by decide +kernel
theorem dX2_readPower_93 : decode cX2_readPower 93 = .ok (.isub, 1) := by decide +kernel
theorem dX2_readPower_94 : decode cX2_readPower 94 = .ok (.istore_n 2, 1) := by decide +kernel
theorem dX2_readPower_95 : decode cX2_readPower 95 = .ok (.iload_n 2, 1) := by decide +kernel
theorem dX2_readPower_96 : decode cX2_readPower 96 = .ok (.iconst 1, 1) := by decide +kernel
theorem dX2_readPower_97 : decode cX2_readPower 97 = .ok (.if_icmp .lt 17, 3) := by decide +kernel
theorem dX2_readPower_100 : decode cX2_readPower 100 = .ok (.iload_n 2, 1) := by decide +kernel
theorem dX2_readPower_101 : decode cX2_readPower 101 = .ok (.bipush 6, 2) := by decide +kernel
theorem dX2_readPower_103 : decode cX2_readPower 103 = .ok (.if_icmp .gt 11, 3) := by decide +kernel
theorem dX2_readPower_106 : decode cX2_readPower 106 = .ok (.aload_n 0, 1) := by decide +kernel
theorem dX2_readPower_107 : decode cX2_readPower 107 = .ok (.iload_n 2, 1) := by decide +kernel
theorem dX2_readPower_108 : decode cX2_readPower 108 = .ok (.invokevirtual 66, 3) := by decide +kernel
theorem dX2_readPower_111 : decode cX2_readPower 111 = .ok (.ifCond .ne 5, 3) := by decide +kernel
theorem dX2_readPower_114 : decode cX2_readPower 114 = .ok (.iconst 0, 1) := by decide +kernel
theorem dX2_readPower_115 : decode cX2_readPower 115 = .ok (.ireturn, 1) := by decide +kernel
theorem dX2_readPower_116 : decode cX2_readPower 116 = .ok (.aload_n 0, 1) := by decide +kernel
theorem dX2_readPower_117 : decode cX2_readPower 117 = .ok (.dup, 1) := by decide +kernel
theorem dX2_readPower_118 : decode cX2_readPower 118 = .ok (.getfield 19, 3) := by decide +kernel
theorem dX2_readPower_121 : decode cX2_readPower 121 = .ok (.iconst 1, 1) := by decide +kernel
theorem dX2_readPower_122 : decode cX2_readPower 122 = .ok (.iadd, 1) := by decide +kernel
theorem dX2_readPower_123 : decode cX2_readPower 123 = .ok (.putfield 19, 3) := by decide +kernel
theorem dX2_readPower_126 : decode cX2_readPower 126 = .ok (.aload_n 0, 1) := by decide +kernel
theorem dX2_readPower_127 : decode cX2_readPower 127 = .ok (.getfield 9, 3) := by decide +kernel
theorem dX2_readPower_130 : decode cX2_readPower 130 = .ok (.iload_n 1, 1) := by decide +kernel
theorem dX2_readPower_131 : decode cX2_readPower 131 = .ok (.iload_n 2, 1) := by decide +kernel
theorem dX2_readPower_132 : decode cX2_readPower 132 = .ok (.iastore, 1) := by decide +kernel
theorem dX2_readPower_133 : decode cX2_readPower 133 = .ok (.aload_n 0, 1) := by decide +kernel
theorem dX2_readPower_134 : decode cX2_readPower 134 = .ok (.dup, 1) := by decide +kernel
theorem dX2_readPower_135 : decode cX2_readPower 135 = .ok (.getfield 51, 3) := by decide +kernel
theorem dX2_readPower_138 : decode cX2_readPower 138 = .ok (.aload_n 0, 1) := by decide +kernel
theorem dX2_readPower_139 : decode cX2_readPower 139 = .ok (.getfield 9, 3) := by decide +kernel
theorem dX2_readPower_142 : decode cX2_readPower 142 = .ok (.iload_n 1, 1) := by decide +kernel
theorem dX2_readPower_143 : decode cX2_readPower 143 = .ok (.iaload, 1) := by decide +kernel
theorem dX2_readPower_144 : decode cX2_readPower 144 = .ok (.iadd, 1) := by decide +kernel
theorem dX2_readPower_145 : decode cX2_readPower 145 = .ok (.putfield 51, 3) := by decide +kernel
theorem dX2_readPower_148 : decode cX2_readPower 148 = .ok (.iconst 1, 1) := by decide +kernel
theorem dX2_readPower_149 : decode cX2_readPower 149 = .ok (.ireturn, 1) := by decide +kernel
theorem dX2_readMember_0 : decode cX2_readMember 0 = .ok (.aload_n 0, 1) := by decide +kernel
theorem dX2_readMember_1 : decode cX2_readMember 1 = .ok (.getfield 19, 3) := by decide +kernel
theorem dX2_readMember_4 : decode cX2_readMember 4 = .ok (.istore_n 3, 1) := by decide +kernel
theorem dX2_readMember_5 : decode cX2_readMember 5 = .ok (.aload_n 0, 1) := by decide +kernel
theorem dX2_readMember_6 : decode cX2_readMember 6 = .ok (.invokevirtual 47, 3) := by decide +kernel
theorem dX2_readMember_9 : decode cX2_readMember 9 = .ok (.istore 4, 2) := by decide +kernel
theorem dX2_readMember_11 : decode cX2_readMember 11 = .ok (.aload_n 0, 1) := by decide +kernel
theorem dX2_readMember_12 : decode cX2_readMember 12 = .ok (.iconst 0, 1) := by decide +kernel
theorem dX2_readMember_13 : decode cX2_readMember 13 = .ok (.putfield 51, 3) := by decide +kernel
theorem dX2_readMember_16 : decode cX2_readMember 16 = .ok (.iconst 0, 1) := by decide +kernel
theorem dX2_readMember_17 : decode cX2_readMember 17 = .ok (.istore 5, 2) := by decide +kernel
theorem dX2_readMember_19 : decode cX2_readMember 19 = .ok (.iload 5, 2) := by decide +kernel
theorem dX2_readMember_21 : decode cX2_readMember 21 = .ok (.iconst 3, 1) := by decide +kernel
theorem dX2_readMember_22 : decode cX2_readMember 22 = .ok (.if_icmp .ge 20, 3) := by decide +kernel
theorem dX2_readMember_25 : decode cX2_readMember 25 = .ok (.aload_n 0, 1) := by decide +kernel
theorem dX2_readMember_26 : decode cX2_readMember 26 = .ok (.iload 5, 2) := by decide +kernel
theorem dX2_readMember_28 : decode cX2_readMember 28 = .ok (.invokevirtual 52, 3) := by decide +kernel
theorem dX2_readMember_31 : decode cX2_readMember 31 = .ok (.ifCond .ne 5, 3) := by decide +kernel
theorem dX2_readMember_34 : decode cX2_readMember 34 = .ok (.iconst 0, 1) := by decide +kernel
theorem dX2_readMember_35 : decode cX2_readMember 35 = .ok (.ireturn, 1) := by decide +kernel
theorem dX2_readMember_36 : decode cX2_readMember 36 = .ok (.iinc 5 1, 3) := by decide +kernel
theorem dX2_readMember_39 : decode cX2_readMember 39 = .ok (.goto (-20), 3) := by decide +kernel
theorem dX2_readMember_42 : decode cX2_readMember 42 = .ok (.aload_n 0, 1) := by decide +kernel
theorem dX2_readMember_43 : decode cX2_readMember 43 = .ok (.getfield 19, 3) := by decide +kernel
theorem dX2_readMember_46 : decode cX2_readMember 46 = .ok (.iload_n 3, 1) := by decide +kernel
theorem dX2_readMember_47 : decode cX2_readMember 47 = .ok (.if_icmp .ne 5, 3) := by decide +kernel
theorem dX2_readMember_50 : decode cX2_readMember 50 = .ok (.iconst 0, 1) := by decide +kernel
theorem dX2_readMember_51 : decode cX2_readMember 51 = .ok (.ireturn, 1) := by decide +kernel
theorem dX2_readMember_52 : decode cX2_readMember 52 = .ok (.aload_n 0, 1) := by decide +kernel
theorem dX2_readMember_53 : decode cX2_readMember 53 = .ok (.getfield 23, 3) := by decide +kernel
theorem dX2_readMember_56 : decode cX2_readMember 56 = .ok (.iconst (-1), 1) := by decide +kernel
theorem dX2_readMember_57 : decode cX2_readMember 57 = .ok (.if_icmp .ne 11, 3) := by decide +kernel
theorem dX2_readMember_60 : decode cX2_readMember 60 = .ok (.aload_n 0, 1) := by decide +kernel
theorem dX2_readMember_61 : decode cX2_readMember 61 = .ok (.aload_n 0, 1) := by decide +kernel
theorem dX2_readMember_62 : decode cX2_readMember 62 = .ok (.getfield 51, 3) := by decide +kernel
theorem dX2_readMember_65 : decode cX2_readMember 65 = .ok (.putfield 23, 3) := by decide +kernel
theorem dX2_readMember_68 : decode cX2_readMember 68 = .ok (.aload_n 0, 1) := by decide +kernel
theorem dX2_readMember_69 : decode cX2_readMember 69 = .ok (.getfield 51, 3) := by decide +kernel
theorem dX2_readMember_72 : decode cX2_readMember 72 = .ok (.aload_n 0, 1) := by decide +kernel
theorem dX2_readMember_73 : decode cX2_readMember 73 = .ok (.getfield 23, 3) := by decide +kernel
theorem dX2_readMember_76 : decode cX2_readMember 76 = .ok (.if_icmp .ge 5, 3) := by decide +kernel
theorem dX2_readMember_79 : decode cX2_readMember 79 = .ok (.iconst 0, 1) := by decide +kernel
theorem dX2_readMember_80 : decode cX2_readMember 80 = .ok (.ireturn, 1) := by decide +kernel
theorem dX2_readMember_81 : decode cX2_readMember 81 = .ok (.aload_n 1, 1) := by decide +kernel
theorem dX2_readMember_82 : decode cX2_readMember 82 = .ok (.getfield 56, 3) := by decide +kernel
theorem dX2_readMember_85 : decode cX2_readMember 85 = .ok (.aload_n 0, 1) := by decide +kernel
theorem dX2_readMember_86 : decode cX2_readMember 86 = .ok (.getfield 9, 3) := by decide +kernel
theorem dX2_readMember_89 : decode cX2_readMember 89 = .ok (.iconst 1, 1) := by decide +kernel
theorem dX2_readMember_90 : decode cX2_readMember 90 = .ok (.iaload, 1) := by decide +kernel
theorem dX2_readMember_91 : decode cX2_readMember 91 = .ok (.aload_n 0, 1) := by decide +kernel
theorem dX2_readMember_92 : decode cX2_readMember 92 = .ok (.getfield 9, 3) := by decide +kernel
theorem dX2_readMember_95 : decode cX2_readMember 95 = .ok (.iconst 2, 1) := by decide +kernel
theorem dX2_readMember_96 : decode cX2_readMember 96 = .ok (.iaload, 1) := by decide +kernel
theorem dX2_readMember_97 : decode cX2_readMember 97 = .ok (.invokestatic 59, 3) := by decide +kernel
theorem dX2_readMember_100 : decode cX2_readMember 100 = .ok (.dup2, 1) := by decide +kernel
theorem dX2_readMember_101 : decode cX2_readMember 101 = .ok (.iaload, 1) := by decide +kernel
theorem dX2_readMember_102 : decode cX2_readMember 102 = .ok (.iload_n 2, 1) := by decide +kernel
theorem dX2_readMember_103 : decode cX2_readMember 103 = .ok (.ifCond .eq 9, 3) := by decide +kernel
theorem dX2_readMember_106 : decode cX2_readMember 106 = .ok (.iload 4, 2) := by decide +kernel
theorem dX2_readMember_108 : decode cX2_readMember 108 = .ok (.ineg, 1) := by decide +kernel
theorem dX2_readMember_109 : decode cX2_readMember 109 = .ok (.goto 5, 3) := by decide +kernel
theorem dX2_readMember_112 : decode cX2_readMember 112 = .ok (.iload 4, 2) := by decide +kernel
theorem dX2_readMember_114 : decode cX2_readMember 114 = .ok (.iadd, 1) := by decide +kernel
theorem dX2_readMember_115 : decode cX2_readMember 115 = .ok (.iastore, 1) := by decide +kernel
theorem dX2_readMember_116 : decode cX2_readMember 116 = .ok (.iconst 1, 1) := by decide +kernel
theorem dX2_readMember_117 : decode cX2_readMember 117 = .ok (.ireturn, 1) := by decide +kernel
theorem dX2_read_0 : decode cX2_read 0 = .ok (.aload_n 0, 1) := by decide +kernel
theorem dX2_read_1 : decode cX2_read 1 = .ok (.aload_n 1, 1) := by decide +kernel
theorem dX2_read_2 : decode cX2_read 2 = .ok (.putfield 15, 3) := by decide +kernel
theorem dX2_read_5 : decode cX2_read 5 = .ok (.aload_n 0, 1) := by decide +kernel
theorem dX2_read_6 : decode cX2_read 6 = .ok (.iconst 0, 1) := by decide +kernel
theorem dX2_read_7 : decode cX2_read 7 = .ok (.putfield 19, 3) := by decide +kernel
theorem dX2_read_10 : decode cX2_read 10 = .ok (.aload_n 0, 1) := by decide +kernel
theorem dX2_read_11 : decode cX2_read 11 = .ok (.iconst (-1), 1) := by decide +kernel
theorem dX2_read_12 : decode cX2_read 12 = .ok (.putfield 23, 3) := by decide +kernel
theorem dX2_read_15 : decode cX2_read 15 = .ok (.aload_n 2, 1) := by decide +kernel
theorem dX2_read_16 : decode cX2_read 16 = .ok (.invokevirtual 26, 3) := by decide +kernel
theorem dX2_read_19 : decode cX2_read 19 = .ok (.aload_n 0, 1) := by decide +kernel
theorem dX2_read_20 : decode cX2_read 20 = .ok (.getfield 15, 3) := by decide +kernel
theorem dX2_read_23 : decode cX2_read 23 = .ok (.iconst 0, 1) := by decide +kernel
theorem dX2_read_24 : decode cX2_read 24 = .ok (.invokevirtual 31, 3) := by decide +kernel
theorem dX2_read_27 : decode cX2_read 27 = .ok (.bipush 45, 2) := by decide +kernel
theorem dX2_read_29 : decode cX2_read 29 = .ok (.if_icmp .ne 7, 3) := by decide +kernel
theorem dX2_read_32 : decode cX2_read 32 = .ok (.iconst 1, 1) := by decide +kernel
theorem dX2_read_33 : decode cX2_read 33 = .ok (.goto 4, 3) := by decide +kernel
theorem dX2_read_36 : decode cX2_read 36 = .ok (.iconst 0, 1) := by decide +kernel
theorem dX2_read_37 : decode cX2_read 37 = .ok (.istore_n 3, 1) := by decide +kernel
theorem dX2_read_38 : decode cX2_read 38 = .ok (.iload_n 3, 1) := by decide +kernel
theorem dX2_read_39 : decode cX2_read 39 = .ok (.ifCond .eq 13, 3) := by decide +kernel
theorem dX2_read_42 : decode cX2_read 42 = .ok (.aload_n 0, 1) := by decide +kernel
theorem dX2_read_43 : decode cX2_read 43 = .ok (.dup, 1) := by decide +kernel
theorem dX2_read_44 : decode cX2_read 44 = .ok (.getfield 19, 3) := by decide +kernel
theorem dX2_read_47 : decode cX2_read 47 = .ok (.iconst 1, 1) := by decide +kernel
theorem dX2_read_48 : decode cX2_read 48 = .ok (.iadd, 1) := by decide +kernel
theorem dX2_read_49 : decode cX2_read 49 = .ok (.putfield 19, 3) := by decide +kernel
theorem dX2_read_52 : decode cX2_read 52 = .ok (.iconst 0, 1) := by decide +kernel
theorem dX2_read_53 : decode cX2_read 53 = .ok (.istore 4, 2) := by decide +kernel
theorem dX2_read_55 : decode cX2_read 55 = .ok (.iload 4, 2) := by decide +kernel
theorem dX2_read_57 : decode cX2_read 57 = .ok (.bipush 72, 2) := by decide +kernel
theorem dX2_read_59 : decode cX2_read 59 = .ok (.if_icmp .ge 95, 3) := by decide +kernel
theorem dX2_read_62 : decode cX2_read 62 = .ok (.aload_n 0, 1) := by decide +kernel
theorem dX2_read_63 : decode cX2_read 63 = .ok (.aload_n 2, 1) := by decide +kernel
theorem dX2_read_64 : decode cX2_read 64 = .ok (.iload_n 3, 1) := by decide +kernel
theorem dX2_read_65 : decode cX2_read 65 = .ok (.invokevirtual 37, 3) := by decide +kernel
theorem dX2_read_68 : decode cX2_read 68 = .ok (.ifCond .ne 8, 3) := by decide +kernel
theorem dX2_read_71 : decode cX2_read 71 = .ok (.aload_n 0, 1) := by decide +kernel
theorem dX2_read_72 : decode cX2_read 72 = .ok (.getfield 19, 3) := by decide +kernel
theorem dX2_read_75 : decode cX2_read 75 = .ok (.ireturn, 1) := by decide +kernel
theorem dX2_read_76 : decode cX2_read 76 = .ok (.aload_n 0, 1) := by decide +kernel
theorem dX2_read_77 : decode cX2_read 77 = .ok (.getfield 19, 3) := by decide +kernel
theorem dX2_read_80 : decode cX2_read 80 = .ok (.aload_n 0, 1) := by decide +kernel
theorem dX2_read_81 : decode cX2_read 81 = .ok (.getfield 15, 3) := by decide +kernel
theorem dX2_read_84 : decode cX2_read 84 = .ok (.getfield 41, 3) := by decide +kernel
theorem dX2_read_87 : decode cX2_read 87 = .ok (.if_icmp .lt 6, 3) := by decide +kernel
theorem dX2_read_90 : decode cX2_read 90 = .ok (.goto 64, 3) := by decide +kernel
theorem dX2_read_93 : decode cX2_read 93 = .ok (.aload_n 0, 1) := by decide +kernel
theorem dX2_read_94 : decode cX2_read 94 = .ok (.getfield 15, 3) := by decide +kernel
theorem dX2_read_97 : decode cX2_read 97 = .ok (.aload_n 0, 1) := by decide +kernel
theorem dX2_read_98 : decode cX2_read 98 = .ok (.getfield 19, 3) := by decide +kernel
theorem dX2_read_101 : decode cX2_read 101 = .ok (.invokevirtual 31, 3) := by decide +kernel
theorem dX2_read_104 : decode cX2_read 104 = .ok (.istore 5, 2) := by decide +kernel
theorem dX2_read_106 : decode cX2_read 106 = .ok (.iload 5, 2) := by decide +kernel
theorem dX2_read_108 : decode cX2_read 108 = .ok (.bipush 43, 2) := by decide +kernel
theorem dX2_read_110 : decode cX2_read 110 = .ok (.if_icmp .eq 15, 3) := by decide +kernel
theorem dX2_read_113 : decode cX2_read 113 = .ok (.iload 5, 2) := by decide +kernel
theorem dX2_read_115 : decode cX2_read 115 = .ok (.bipush 45, 2) := by decide +kernel
theorem dX2_read_117 : decode cX2_read 117 = .ok (.if_icmp .eq 8, 3) := by decide +kernel
theorem dX2_read_120 : decode cX2_read 120 = .ok (.aload_n 0, 1) := by decide +kernel
theorem dX2_read_121 : decode cX2_read 121 = .ok (.getfield 19, 3) := by decide +kernel
theorem dX2_read_124 : decode cX2_read 124 = .ok (.ireturn, 1) := by decide +kernel
theorem dX2_read_125 : decode cX2_read 125 = .ok (.iload 5, 2) := by decide +kernel
theorem dX2_read_127 : decode cX2_read 127 = .ok (.bipush 45, 2) := by decide +kernel
theorem dX2_read_129 : decode cX2_read 129 = .ok (.if_icmp .ne 7, 3) := by decide +kernel
theorem dX2_read_132 : decode cX2_read 132 = .ok (.iconst 1, 1) := by decide +kernel
theorem dX2_read_133 : decode cX2_read 133 = .ok (.goto 4, 3) := by decide +kernel
theorem dX2_read_136 : decode cX2_read 136 = .ok (.iconst 0, 1) := by decide +kernel
theorem dX2_read_137 : decode cX2_read 137 = .ok (.istore_n 3, 1) := by decide +kernel
theorem dX2_read_138 : decode cX2_read 138 = .ok (.aload_n 0, 1) := by decide +kernel
theorem dX2_read_139 : decode cX2_read 139 = .ok (.dup, 1) := by decide +kernel
theorem dX2_read_140 : decode cX2_read 140 = .ok (.getfield 19, 3) := by decide +kernel
theorem dX2_read_143 : decode cX2_read 143 = .ok (.iconst 1, 1) := by decide +kernel
theorem dX2_read_144 : decode cX2_read 144 = .ok (.iadd, 1) := by decide +kernel
theorem dX2_read_145 : decode cX2_read 145 = .ok (.putfield 19, 3) := by decide +kernel
theorem dX2_read_148 : decode cX2_read 148 = .ok (.iinc 4 1, 3) := by decide +kernel
theorem dX2_read_151 : decode cX2_read 151 = .ok (.goto (-96), 3) := by decide +kernel
theorem dX2_read_154 : decode cX2_read 154 = .ok (.aload_n 2, 1) := by decide +kernel
theorem dX2_read_155 : decode cX2_read 155 = .ok (.aload_n 0, 1) := by decide +kernel
theorem dX2_read_156 : decode cX2_read 156 = .ok (.getfield 23, 3) := by decide +kernel
theorem dX2_read_159 : decode cX2_read 159 = .ok (.putfield 44, 3) := by decide +kernel
theorem dX2_read_162 : decode cX2_read 162 = .ok (.iconst (-1), 1) := by decide +kernel
theorem dX2_read_163 : decode cX2_read 163 = .ok (.ireturn, 1) := by decide +kernel
theorem dX3_add_0 : decode cX3_add 0 = .ok (.aload_n 0, 1) := by decide +kernel
theorem dX3_add_1 : decode cX3_add 1 = .ok (.getfield 15, 3) := by decide +kernel
theorem dX3_add_4 : decode cX3_add 4 = .ok (.bipush 72, 2) := by decide +kernel
theorem dX3_add_6 : decode cX3_add 6 = .ok (.if_icmp .lt 4, 3) := by decide +kernel
theorem dX3_add_9 : decode cX3_add 9 = .ok (.return_, 1) := by decide +kernel
theorem dX3_add_10 : decode cX3_add 10 = .ok (.aload_n 0, 1) := by decide +kernel
theorem dX3_add_11 : decode cX3_add 11 = .ok (.getfield 9, 3) := by decide +kernel
theorem dX3_add_14 : decode cX3_add 14 = .ok (.aload_n 0, 1) := by decide +kernel
theorem dX3_add_15 : decode cX3_add 15 = .ok (.getfield 15, 3) := by decide +kernel
theorem dX3_add_18 : decode cX3_add 18 = .ok (.iload_n 1, 1) := by decide +kernel
theorem dX3_add_19 : decode cX3_add 19 = .ok (.iastore, 1) := by decide +kernel
theorem dX3_add_20 : decode cX3_add 20 = .ok (.aload_n 0, 1) := by decide +kernel
theorem dX3_add_21 : decode cX3_add 21 = .ok (.dup, 1) := by decide +kernel
theorem dX3_add_22 : decode cX3_add 22 = .ok (.getfield 15, 3) := by decide +kernel
theorem dX3_add_25 : decode cX3_add 25 = .ok (.iconst 1, 1) := by decide +kernel
theorem dX3_add_26 : decode cX3_add 26 = .ok (.iadd, 1) := by decide +kernel
theorem dX3_add_27 : decode cX3_add 27 = .ok (.putfield 15, 3) := by decide +kernel
theorem dX3_add_30 : decode cX3_add 30 = .ok (.return_, 1) := by decide +kernel
theorem dX4_misses_0 : decode cX4_misses 0 = .ok (.aload_n 0, 1) := by decide +kernel
theorem dX4_misses_1 : decode cX4_misses 1 = .ok (.getfield 16, 3) := by decide +kernel
theorem dX4_misses_4 : decode cX4_misses 4 = .ok (.iload_n 1, 1) := by decide +kernel
theorem dX4_misses_5 : decode cX4_misses 5 = .ok (.iaload, 1) := by decide +kernel
theorem dX4_misses_6 : decode cX4_misses 6 = .ok (.ifCond .ge 7, 3) := by decide +kernel
theorem dX4_misses_9 : decode cX4_misses 9 = .ok (.iconst 1, 1) := by decide +kernel
theorem dX4_misses_10 : decode cX4_misses 10 = .ok (.goto 4, 3) := by decide +kernel
theorem dX4_misses_13 : decode cX4_misses 13 = .ok (.iconst 0, 1) := by decide +kernel
theorem dX4_misses_14 : decode cX4_misses 14 = .ok (.ireturn, 1) := by decide +kernel
theorem dX4_renew_0 : decode cX4_renew 0 = .ok (.aload_n 0, 1) := by decide +kernel
theorem dX4_renew_1 : decode cX4_renew 1 = .ok (.getfield 16, 3) := by decide +kernel
theorem dX4_renew_4 : decode cX4_renew 4 = .ok (.iload_n 1, 1) := by decide +kernel
theorem dX4_renew_5 : decode cX4_renew 5 = .ok (.iload_n 2, 1) := by decide +kernel
theorem dX4_renew_6 : decode cX4_renew 6 = .ok (.iastore, 1) := by decide +kernel
theorem dX4_renew_7 : decode cX4_renew 7 = .ok (.iconst 0, 1) := by decide +kernel
theorem dX4_renew_8 : decode cX4_renew 8 = .ok (.istore_n 3, 1) := by decide +kernel
theorem dX4_renew_9 : decode cX4_renew 9 = .ok (.iload_n 3, 1) := by decide +kernel
theorem dX4_renew_10 : decode cX4_renew 10 = .ok (.iload_n 2, 1) := by decide +kernel
theorem dX4_renew_11 : decode cX4_renew 11 = .ok (.if_icmp .ge 18, 3) := by decide +kernel
theorem dX4_renew_14 : decode cX4_renew 14 = .ok (.aload_n 0, 1) := by decide +kernel
theorem dX4_renew_15 : decode cX4_renew 15 = .ok (.getfield 11, 3) := by decide +kernel
theorem dX4_renew_18 : decode cX4_renew 18 = .ok (.iload_n 1, 1) := by decide +kernel
theorem dX4_renew_19 : decode cX4_renew 19 = .ok (.aaload, 1) := by decide +kernel
theorem dX4_renew_20 : decode cX4_renew 20 = .ok (.iload_n 3, 1) := by decide +kernel
theorem dX4_renew_21 : decode cX4_renew 21 = .ok (.iconst 0, 1) := by decide +kernel
theorem dX4_renew_22 : decode cX4_renew 22 = .ok (.iastore, 1) := by decide +kernel
theorem dX4_renew_23 : decode cX4_renew 23 = .ok (.iinc 3 1, 3) := by decide +kernel
theorem dX4_renew_26 : decode cX4_renew 26 = .ok (.goto (-17), 3) := by decide +kernel
theorem dX4_renew_29 : decode cX4_renew 29 = .ok (.return_, 1) := by decide +kernel
theorem dX4_isPolynomial_0 : decode cX4_isPolynomial 0 = .ok (.aload_n 0, 1) := by decide +kernel
theorem dX4_isPolynomial_1 : decode cX4_isPolynomial 1 = .ok (.getfield 16, 3) := by decide +kernel
theorem dX4_isPolynomial_4 : decode cX4_isPolynomial 4 = .ok (.iload_n 1, 1) := by decide +kernel
theorem dX4_isPolynomial_5 : decode cX4_isPolynomial 5 = .ok (.iaload, 1) := by decide +kernel
theorem dX4_isPolynomial_6 : decode cX4_isPolynomial 6 = .ok (.bipush 9, 2) := by decide +kernel
theorem dX4_isPolynomial_8 : decode cX4_isPolynomial 8 = .ok (.if_icmp .le 5, 3) := by decide +kernel
theorem dX4_isPolynomial_11 : decode cX4_isPolynomial 11 = .ok (.iconst 0, 1) := by decide +kernel
theorem dX4_isPolynomial_12 : decode cX4_isPolynomial 12 = .ok (.ireturn, 1) := by decide +kernel
theorem dX4_isPolynomial_13 : decode cX4_isPolynomial 13 = .ok (.iconst 0, 1) := by decide +kernel
theorem dX4_isPolynomial_14 : decode cX4_isPolynomial 14 = .ok (.istore_n 2, 1) := by decide +kernel
theorem dX4_isPolynomial_15 : decode cX4_isPolynomial 15 = .ok (.iload_n 2, 1) := by decide +kernel
theorem dX4_isPolynomial_16 : decode cX4_isPolynomial 16 = .ok (.aload_n 0, 1) := by decide +kernel
theorem dX4_isPolynomial_17 : decode cX4_isPolynomial 17 = .ok (.getfield 16, 3) := by decide +kernel
theorem dX4_isPolynomial_20 : decode cX4_isPolynomial 20 = .ok (.iload_n 1, 1) := by decide +kernel
theorem dX4_isPolynomial_21 : decode cX4_isPolynomial 21 = .ok (.iaload, 1) := by decide +kernel
theorem dX4_isPolynomial_22 : decode cX4_isPolynomial 22 = .ok (.if_icmp .ge 37, 3) := by decide +kernel
theorem dX4_isPolynomial_25 : decode cX4_isPolynomial 25 = .ok (.aload_n 0, 1) := by decide +kernel
theorem dX4_isPolynomial_26 : decode cX4_isPolynomial 26 = .ok (.getfield 11, 3) := by decide +kernel
theorem dX4_isPolynomial_29 : decode cX4_isPolynomial 29 = .ok (.iload_n 1, 1) := by decide +kernel
theorem dX4_isPolynomial_30 : decode cX4_isPolynomial 30 = .ok (.aaload, 1) := by decide +kernel
theorem dX4_isPolynomial_31 : decode cX4_isPolynomial 31 = .ok (.iload_n 2, 1) := by decide +kernel
theorem dX4_isPolynomial_32 : decode cX4_isPolynomial 32 = .ok (.iaload, 1) := by decide +kernel
theorem dX4_isPolynomial_33 : decode cX4_isPolynomial 33 = .ok (.ldc 20, 2) := by decide +kernel
theorem dX4_isPolynomial_35 : decode cX4_isPolynomial 35 = .ok (.if_icmp .lt 16, 3) := by decide +kernel
theorem dX4_isPolynomial_38 : decode cX4_isPolynomial 38 = .ok (.aload_n 0, 1) := by decide +kernel
theorem dX4_isPolynomial_39 : decode cX4_isPolynomial 39 = .ok (.getfield 11, 3) := by decide +kernel
theorem dX4_isPolynomial_42 : decode cX4_isPolynomial 42 = .ok (.iload_n 1, 1) := by decide +kernel
theorem dX4_isPolynomial_43 : decode cX4_isPolynomial 43 = .ok (.aaload, 1) := by decide +kernel
theorem dX4_isPolynomial_44 : decode cX4_isPolynomial 44 = .ok (.iload_n 2, 1) := by decide +kernel
theorem dX4_isPolynomial_45 : decode cX4_isPolynomial 45 = .ok (.iaload, 1) := by decide +kernel
theorem dX4_isPolynomial_46 : decode cX4_isPolynomial 46 = .ok (.ldc 21, 2) := by decide +kernel
theorem dX4_isPolynomial_48 : decode cX4_isPolynomial 48 = .ok (.if_icmp .le 5, 3) := by decide +kernel
theorem dX4_isPolynomial_51 : decode cX4_isPolynomial 51 = .ok (.iconst 0, 1) := by decide +kernel
theorem dX4_isPolynomial_52 : decode cX4_isPolynomial 52 = .ok (.ireturn, 1) := by decide +kernel
theorem dX4_isPolynomial_53 : decode cX4_isPolynomial 53 = .ok (.iinc 2 1, 3) := by decide +kernel
theorem dX4_isPolynomial_56 : decode cX4_isPolynomial 56 = .ok (.goto (-41), 3) := by decide +kernel
theorem dX4_isPolynomial_59 : decode cX4_isPolynomial 59 = .ok (.iconst 1, 1) := by decide +kernel
theorem dX4_isPolynomial_60 : decode cX4_isPolynomial 60 = .ok (.ireturn, 1) := by decide +kernel
theorem dX4_ways_0 : decode cX4_ways 0 = .ok (.lconst 1, 1) := by decide +kernel
theorem dX4_ways_1 : decode cX4_ways 1 = .ok (.lstore_n 2, 1) := by decide +kernel
theorem dX4_ways_2 : decode cX4_ways 2 = .ok (.iconst 1, 1) := by decide +kernel
theorem dX4_ways_3 : decode cX4_ways 3 = .ok (.istore 4, 2) := by decide +kernel
theorem dX4_ways_5 : decode cX4_ways 5 = .ok (.iload 4, 2) := by decide +kernel
theorem dX4_ways_7 : decode cX4_ways 7 = .ok (.iload_n 1, 1) := by decide +kernel
theorem dX4_ways_8 : decode cX4_ways 8 = .ok (.if_icmp .gt 23, 3) := by decide +kernel
theorem dX4_ways_11 : decode cX4_ways 11 = .ok (.lload_n 2, 1) := by decide +kernel
theorem dX4_ways_12 : decode cX4_ways 12 = .ok (.iload_n 0, 1) := by decide +kernel
theorem dX4_ways_13 : decode cX4_ways 13 = .ok (.iload_n 1, 1) := by decide +kernel
theorem dX4_ways_14 : decode cX4_ways 14 = .ok (.isub, 1) := by decide +kernel
theorem dX4_ways_15 : decode cX4_ways 15 = .ok (.iload 4, 2) := by decide +kernel
theorem dX4_ways_17 : decode cX4_ways 17 = .ok (.iadd, 1) := by decide +kernel
theorem dX4_ways_18 : decode cX4_ways 18 = .ok (.i2l, 1) := by decide +kernel
theorem dX4_ways_19 : decode cX4_ways 19 = .ok (.lmul, 1) := by decide +kernel
theorem dX4_ways_20 : decode cX4_ways 20 = .ok (.iload 4, 2) := by decide +kernel
theorem dX4_ways_22 : decode cX4_ways 22 = .ok (.i2l, 1) := by decide +kernel
theorem dX4_ways_23 : decode cX4_ways 23 = .ok (.ldiv, 1) := by decide +kernel
theorem dX4_ways_24 : decode cX4_ways 24 = .ok (.lstore_n 2, 1) := by decide +kernel
theorem dX4_ways_25 : decode cX4_ways 25 = .ok (.iinc 4 1, 3) := by decide +kernel
theorem dX4_ways_28 : decode cX4_ways 28 = .ok (.goto (-23), 3) := by decide +kernel
theorem dX4_ways_31 : decode cX4_ways 31 = .ok (.lload_n 2, 1) := by decide +kernel
theorem dX4_ways_32 : decode cX4_ways 32 = .ok (.lreturn, 1) := by decide +kernel
theorem dX4_wall_0 : decode cX4_wall 0 = .ok (.lconst 0, 1) := by decide +kernel
theorem dX4_wall_1 : decode cX4_wall 1 = .ok (.lstore 4, 2) := by decide +kernel
theorem dX4_wall_3 : decode cX4_wall 3 = .ok (.iconst 0, 1) := by decide +kernel
theorem dX4_wall_4 : decode cX4_wall 4 = .ok (.istore 6, 2) := by decide +kernel
theorem dX4_wall_6 : decode cX4_wall 6 = .ok (.iload 6, 2) := by decide +kernel
theorem dX4_wall_8 : decode cX4_wall 8 = .ok (.aload_n 0, 1) := by decide +kernel
theorem dX4_wall_9 : decode cX4_wall 9 = .ok (.getfield 16, 3) := by decide +kernel
theorem dX4_wall_12 : decode cX4_wall 12 = .ok (.iload_n 1, 1) := by decide +kernel
theorem dX4_wall_13 : decode cX4_wall 13 = .ok (.iaload, 1) := by decide +kernel
theorem dX4_wall_14 : decode cX4_wall 14 = .ok (.if_icmp .ge 42, 3) := by decide +kernel
theorem dX4_wall_17 : decode cX4_wall 17 = .ok (.iload 6, 2) := by decide +kernel
theorem dX4_wall_19 : decode cX4_wall 19 = .ok (.iload_n 3, 1) := by decide +kernel
theorem dX4_wall_20 : decode cX4_wall 20 = .ok (.if_icmp .gt 36, 3) := by decide +kernel
theorem dX4_wall_23 : decode cX4_wall 23 = .ok (.lload 4, 2) := by decide +kernel
theorem dX4_wall_25 : decode cX4_wall 25 = .ok (.aload_n 0, 1) := by decide +kernel
theorem dX4_wall_26 : decode cX4_wall 26 = .ok (.getfield 11, 3) := by decide +kernel
theorem dX4_wall_29 : decode cX4_wall 29 = .ok (.iload_n 1, 1) := by decide +kernel
theorem dX4_wall_30 : decode cX4_wall 30 = .ok (.aaload, 1) := by decide +kernel
theorem dX4_wall_31 : decode cX4_wall 31 = .ok (.iload 6, 2) := by decide +kernel
theorem dX4_wall_33 : decode cX4_wall 33 = .ok (.iaload, 1) := by decide +kernel
theorem dX4_wall_34 : decode cX4_wall 34 = .ok (.i2l, 1) := by decide +kernel
theorem dX4_wall_35 : decode cX4_wall 35 = .ok (.iload_n 2, 1) := by decide +kernel
theorem dX4_wall_36 : decode cX4_wall 36 = .ok (.iload 6, 2) := by decide +kernel
theorem dX4_wall_38 : decode cX4_wall 38 = .ok (.isub, 1) := by decide +kernel
theorem dX4_wall_39 : decode cX4_wall 39 = .ok (.iload_n 3, 1) := by decide +kernel
theorem dX4_wall_40 : decode cX4_wall 40 = .ok (.iload 6, 2) := by decide +kernel
theorem dX4_wall_42 : decode cX4_wall 42 = .ok (.isub, 1) := by decide +kernel
theorem dX4_wall_43 : decode cX4_wall 43 = .ok (.invokestatic 22, 3) := by decide +kernel
theorem dX4_wall_46 : decode cX4_wall 46 = .ok (.lmul, 1) := by decide +kernel
theorem dX4_wall_47 : decode cX4_wall 47 = .ok (.ladd, 1) := by decide +kernel
theorem dX4_wall_48 : decode cX4_wall 48 = .ok (.lstore 4, 2) := by decide +kernel
theorem dX4_wall_50 : decode cX4_wall 50 = .ok (.iinc 6 1, 3) := by decide +kernel
theorem dX4_wall_53 : decode cX4_wall 53 = .ok (.goto (-47), 3) := by decide +kernel
theorem dX4_wall_56 : decode cX4_wall 56 = .ok (.lload 4, 2) := by decide +kernel
theorem dX4_wall_58 : decode cX4_wall 58 = .ok (.lreturn, 1) := by decide +kernel
theorem dX10_fails_0 : decode cX10_fails 0 = .ok (.iload_n 2, 1) := by decide +kernel
theorem dX10_fails_1 : decode cX10_fails 1 = .ok (.ifCond .ne 17, 3) := by decide +kernel
theorem dX10_fails_4 : decode cX10_fails 4 = .ok (.lload_n 0, 1) := by decide +kernel
theorem dX10_fails_5 : decode cX10_fails 5 = .ok (.lconst 0, 1) := by decide +kernel
theorem dX10_fails_6 : decode cX10_fails 6 = .ok (.lcmp, 1) := by decide +kernel
theorem dX10_fails_7 : decode cX10_fails 7 = .ok (.ifCond .ge 7, 3) := by decide +kernel
theorem dX10_fails_10 : decode cX10_fails 10 = .ok (.iconst 1, 1) := by decide +kernel
theorem dX10_fails_11 : decode cX10_fails 11 = .ok (.goto 18, 3) := by decide +kernel
theorem dX10_fails_14 : decode cX10_fails 14 = .ok (.iconst 0, 1) := by decide +kernel
theorem dX10_fails_15 : decode cX10_fails 15 = .ok (.goto 14, 3) := by decide +kernel
theorem dX10_fails_18 : decode cX10_fails 18 = .ok (.lload_n 0, 1) := by decide +kernel
theorem dX10_fails_19 : decode cX10_fails 19 = .ok (.lconst 0, 1) := by decide +kernel
theorem dX10_fails_20 : decode cX10_fails 20 = .ok (.lcmp, 1) := by decide +kernel
theorem dX10_fails_21 : decode cX10_fails 21 = .ok (.ifCond .gt 7, 3) := by decide +kernel
theorem dX10_fails_24 : decode cX10_fails 24 = .ok (.iconst 1, 1) := by decide +kernel
theorem dX10_fails_25 : decode cX10_fails 25 = .ok (.goto 4, 3) := by decide +kernel
theorem dX10_fails_28 : decode cX10_fails 28 = .ok (.iconst 0, 1) := by decide +kernel
theorem dX10_fails_29 : decode cX10_fails 29 = .ok (.ireturn, 1) := by decide +kernel
theorem dX4_wallsClear_0 : decode cX4_wallsClear 0 = .ok (.iconst 0, 1) := by decide +kernel
theorem dX4_wallsClear_1 : decode cX4_wallsClear 1 = .ok (.istore 4, 2) := by decide +kernel
theorem dX4_wallsClear_3 : decode cX4_wallsClear 3 = .ok (.iload 4, 2) := by decide +kernel
theorem dX4_wallsClear_5 : decode cX4_wallsClear 5 = .ok (.iload_n 2, 1) := by decide +kernel
theorem dX4_wallsClear_6 : decode cX4_wallsClear 6 = .ok (.if_icmp .gt 26, 3) := by decide +kernel
theorem dX4_wallsClear_9 : decode cX4_wallsClear 9 = .ok (.aload_n 0, 1) := by decide +kernel
theorem dX4_wallsClear_10 : decode cX4_wallsClear 10 = .ok (.iload_n 1, 1) := by decide +kernel
theorem dX4_wallsClear_11 : decode cX4_wallsClear 11 = .ok (.iload_n 2, 1) := by decide +kernel
theorem dX4_wallsClear_12 : decode cX4_wallsClear 12 = .ok (.iload 4, 2) := by decide +kernel
theorem dX4_wallsClear_14 : decode cX4_wallsClear 14 = .ok (.invokevirtual 26, 3) := by decide +kernel
theorem dX4_wallsClear_17 : decode cX4_wallsClear 17 = .ok (.iload_n 3, 1) := by decide +kernel
theorem dX4_wallsClear_18 : decode cX4_wallsClear 18 = .ok (.invokestatic 30, 3) := by decide +kernel
theorem dX4_wallsClear_21 : decode cX4_wallsClear 21 = .ok (.ifCond .eq 5, 3) := by decide +kernel
theorem dX4_wallsClear_24 : decode cX4_wallsClear 24 = .ok (.iconst 0, 1) := by decide +kernel
theorem dX4_wallsClear_25 : decode cX4_wallsClear 25 = .ok (.ireturn, 1) := by decide +kernel
theorem dX4_wallsClear_26 : decode cX4_wallsClear 26 = .ok (.iinc 4 1, 3) := by decide +kernel
theorem dX4_wallsClear_29 : decode cX4_wallsClear 29 = .ok (.goto (-26), 3) := by decide +kernel
theorem dX4_wallsClear_32 : decode cX4_wallsClear 32 = .ok (.iconst 1, 1) := by decide +kernel
theorem dX4_wallsClear_33 : decode cX4_wallsClear 33 = .ok (.ireturn, 1) := by decide +kernel
theorem dX6_isFull_0 : decode cX6_isFull 0 = .ok (.aload_n 0, 1) := by decide +kernel
theorem dX6_isFull_1 : decode cX6_isFull 1 = .ok (.getfield 32, 3) := by decide +kernel
theorem dX6_isFull_4 : decode cX6_isFull 4 = .ok (.bipush 6, 2) := by decide +kernel
theorem dX6_isFull_6 : decode cX6_isFull 6 = .ok (.if_icmp .lt 7, 3) := by decide +kernel
theorem dX6_isFull_9 : decode cX6_isFull 9 = .ok (.iconst 1, 1) := by decide +kernel
theorem dX6_isFull_10 : decode cX6_isFull 10 = .ok (.goto 4, 3) := by decide +kernel
theorem dX6_isFull_13 : decode cX6_isFull 13 = .ok (.iconst 0, 1) := by decide +kernel
theorem dX6_isFull_14 : decode cX6_isFull 14 = .ok (.ireturn, 1) := by decide +kernel
theorem dX6_lacks_0 : decode cX6_lacks 0 = .ok (.iload_n 1, 1) := by decide +kernel
theorem dX6_lacks_1 : decode cX6_lacks 1 = .ok (.aload_n 0, 1) := by decide +kernel
theorem dX6_lacks_2 : decode cX6_lacks 2 = .ok (.getfield 32, 3) := by decide +kernel
theorem dX6_lacks_5 : decode cX6_lacks 5 = .ok (.invokestatic 35, 3) := by decide +kernel
theorem dX6_lacks_8 : decode cX6_lacks 8 = .ok (.ireturn, 1) := by decide +kernel
theorem dX6_keepImage_0 : decode cX6_keepImage 0 = .ok (.iconst 0, 1) := by decide +kernel
theorem dX6_keepImage_1 : decode cX6_keepImage 1 = .ok (.istore_n 1, 1) := by decide +kernel
theorem dX6_keepImage_2 : decode cX6_keepImage 2 = .ok (.iload_n 1, 1) := by decide +kernel
theorem dX6_keepImage_3 : decode cX6_keepImage 3 = .ok (.aload_n 0, 1) := by decide +kernel
theorem dX6_keepImage_4 : decode cX6_keepImage 4 = .ok (.getfield 32, 3) := by decide +kernel
theorem dX6_keepImage_7 : decode cX6_keepImage 7 = .ok (.if_icmp .ge 24, 3) := by decide +kernel
theorem dX6_keepImage_10 : decode cX6_keepImage 10 = .ok (.aload_n 0, 1) := by decide +kernel
theorem dX6_keepImage_11 : decode cX6_keepImage 11 = .ok (.getfield 17, 3) := by decide +kernel
theorem dX6_keepImage_14 : decode cX6_keepImage 14 = .ok (.iload_n 1, 1) := by decide +kernel
theorem dX6_keepImage_15 : decode cX6_keepImage 15 = .ok (.aaload, 1) := by decide +kernel
theorem dX6_keepImage_16 : decode cX6_keepImage 16 = .ok (.aload_n 0, 1) := by decide +kernel
theorem dX6_keepImage_17 : decode cX6_keepImage 17 = .ok (.getfield 11, 3) := by decide +kernel
theorem dX6_keepImage_20 : decode cX6_keepImage 20 = .ok (.iload_n 1, 1) := by decide +kernel
theorem dX6_keepImage_21 : decode cX6_keepImage 21 = .ok (.aaload, 1) := by decide +kernel
theorem dX6_keepImage_22 : decode cX6_keepImage 22 = .ok (.invokevirtual 39, 3) := by decide +kernel
theorem dX6_keepImage_25 : decode cX6_keepImage 25 = .ok (.iinc 1 1, 3) := by decide +kernel
theorem dX6_keepImage_28 : decode cX6_keepImage 28 = .ok (.goto (-26), 3) := by decide +kernel
theorem dX6_keepImage_31 : decode cX6_keepImage 31 = .ok (.aload_n 0, 1) := by decide +kernel
theorem dX6_keepImage_32 : decode cX6_keepImage 32 = .ok (.aload_n 0, 1) := by decide +kernel
theorem dX6_keepImage_33 : decode cX6_keepImage 33 = .ok (.getfield 32, 3) := by decide +kernel
theorem dX6_keepImage_36 : decode cX6_keepImage 36 = .ok (.putfield 27, 3) := by decide +kernel
theorem dX6_keepImage_39 : decode cX6_keepImage 39 = .ok (.return_, 1) := by decide +kernel
theorem dX6_restoreImage_0 : decode cX6_restoreImage 0 = .ok (.iconst 0, 1) := by decide +kernel
theorem dX6_restoreImage_1 : decode cX6_restoreImage 1 = .ok (.istore_n 1, 1) := by decide +kernel
theorem dX6_restoreImage_2 : decode cX6_restoreImage 2 = .ok (.iload_n 1, 1) := by decide +kernel
theorem dX6_restoreImage_3 : decode cX6_restoreImage 3 = .ok (.aload_n 0, 1) := by decide +kernel
theorem dX6_restoreImage_4 : decode cX6_restoreImage 4 = .ok (.getfield 27, 3) := by decide +kernel
theorem dX6_restoreImage_7 : decode cX6_restoreImage 7 = .ok (.if_icmp .ge 24, 3) := by decide +kernel
theorem dX6_restoreImage_10 : decode cX6_restoreImage 10 = .ok (.aload_n 0, 1) := by decide +kernel
theorem dX6_restoreImage_11 : decode cX6_restoreImage 11 = .ok (.getfield 11, 3) := by decide +kernel
theorem dX6_restoreImage_14 : decode cX6_restoreImage 14 = .ok (.iload_n 1, 1) := by decide +kernel
theorem dX6_restoreImage_15 : decode cX6_restoreImage 15 = .ok (.aaload, 1) := by decide +kernel
theorem dX6_restoreImage_16 : decode cX6_restoreImage 16 = .ok (.aload_n 0, 1) := by decide +kernel
theorem dX6_restoreImage_17 : decode cX6_restoreImage 17 = .ok (.getfield 17, 3) := by decide +kernel
theorem dX6_restoreImage_20 : decode cX6_restoreImage 20 = .ok (.iload_n 1, 1) := by decide +kernel
theorem dX6_restoreImage_21 : decode cX6_restoreImage 21 = .ok (.aaload, 1) := by decide +kernel
theorem dX6_restoreImage_22 : decode cX6_restoreImage 22 = .ok (.invokevirtual 39, 3) := by decide +kernel
theorem dX6_restoreImage_25 : decode cX6_restoreImage 25 = .ok (.iinc 1 1, 3) := by decide +kernel
theorem dX6_restoreImage_28 : decode cX6_restoreImage 28 = .ok (.goto (-26), 3) := by decide +kernel
theorem dX6_restoreImage_31 : decode cX6_restoreImage 31 = .ok (.aload_n 0, 1) := by decide +kernel
theorem dX6_restoreImage_32 : decode cX6_restoreImage 32 = .ok (.aload_n 0, 1) := by decide +kernel
theorem dX6_restoreImage_33 : decode cX6_restoreImage 33 = .ok (.getfield 27, 3) := by decide +kernel
theorem dX6_restoreImage_36 : decode cX6_restoreImage 36 = .ok (.putfield 32, 3) := by decide +kernel
theorem dX6_restoreImage_39 : decode cX6_restoreImage 39 = .ok (.return_, 1) := by decide +kernel
theorem dX6_termsOfAll_0 : decode cX6_termsOfAll 0 = .ok (.iconst 0, 1) := by decide +kernel
theorem dX6_termsOfAll_1 : decode cX6_termsOfAll 1 = .ok (.istore_n 1, 1) := by decide +kernel
theorem dX6_termsOfAll_2 : decode cX6_termsOfAll 2 = .ok (.iconst 0, 1) := by decide +kernel
theorem dX6_termsOfAll_3 : decode cX6_termsOfAll 3 = .ok (.istore_n 2, 1) := by decide +kernel
theorem dX6_termsOfAll_4 : decode cX6_termsOfAll 4 = .ok (.iload_n 2, 1) := by decide +kernel
theorem dX6_termsOfAll_5 : decode cX6_termsOfAll 5 = .ok (.aload_n 0, 1) := by decide +kernel
theorem dX6_termsOfAll_6 : decode cX6_termsOfAll 6 = .ok (.getfield 32, 3) := by decide +kernel
theorem dX6_termsOfAll_9 : decode cX6_termsOfAll 9 = .ok (.if_icmp .ge 24, 3) := by decide +kernel
theorem dX6_termsOfAll_12 : decode cX6_termsOfAll 12 = .ok (.iload_n 1, 1) := by decide +kernel
theorem dX6_termsOfAll_13 : decode cX6_termsOfAll 13 = .ok (.aload_n 0, 1) := by decide +kernel
theorem dX6_termsOfAll_14 : decode cX6_termsOfAll 14 = .ok (.getfield 11, 3) := by decide +kernel
theorem dX6_termsOfAll_17 : decode cX6_termsOfAll 17 = .ok (.iload_n 2, 1) := by decide +kernel
theorem dX6_termsOfAll_18 : decode cX6_termsOfAll 18 = .ok (.aaload, 1) := by decide +kernel
theorem dX6_termsOfAll_19 : decode cX6_termsOfAll 19 = .ok (.getfield 43, 3) := by decide +kernel
theorem dX6_termsOfAll_22 : decode cX6_termsOfAll 22 = .ok (.invokestatic 46, 3) := by decide +kernel
theorem dX6_termsOfAll_25 : decode cX6_termsOfAll 25 = .ok (.iadd, 1) := by decide +kernel
theorem dX6_termsOfAll_26 : decode cX6_termsOfAll 26 = .ok (.istore_n 1, 1) := by decide +kernel
theorem dX6_termsOfAll_27 : decode cX6_termsOfAll 27 = .ok (.iinc 2 1, 3) := by decide +kernel
theorem dX6_termsOfAll_30 : decode cX6_termsOfAll 30 = .ok (.goto (-26), 3) := by decide +kernel
theorem dX6_termsOfAll_33 : decode cX6_termsOfAll 33 = .ok (.iload_n 1, 1) := by decide +kernel
theorem dX6_termsOfAll_34 : decode cX6_termsOfAll 34 = .ok (.ireturn, 1) := by decide +kernel
theorem dX6_clearForms_0 : decode cX6_clearForms 0 = .ok (.iconst 0, 1) := by decide +kernel
theorem dX6_clearForms_1 : decode cX6_clearForms 1 = .ok (.istore_n 1, 1) := by decide +kernel
theorem dX6_clearForms_2 : decode cX6_clearForms 2 = .ok (.iconst 0, 1) := by decide +kernel
theorem dX6_clearForms_3 : decode cX6_clearForms 3 = .ok (.istore_n 2, 1) := by decide +kernel
theorem dX6_clearForms_4 : decode cX6_clearForms 4 = .ok (.iload_n 2, 1) := by decide +kernel
theorem dX6_clearForms_5 : decode cX6_clearForms 5 = .ok (.aload_n 0, 1) := by decide +kernel
theorem dX6_clearForms_6 : decode cX6_clearForms 6 = .ok (.getfield 32, 3) := by decide +kernel
theorem dX6_clearForms_9 : decode cX6_clearForms 9 = .ok (.if_icmp .ge 28, 3) := by decide +kernel
theorem dX6_clearForms_12 : decode cX6_clearForms 12 = .ok (.aload_n 0, 1) := by decide +kernel
theorem dX6_clearForms_13 : decode cX6_clearForms 13 = .ok (.getfield 11, 3) := by decide +kernel
theorem dX6_clearForms_16 : decode cX6_clearForms 16 = .ok (.iload_n 2, 1) := by decide +kernel
theorem dX6_clearForms_17 : decode cX6_clearForms 17 = .ok (.aaload, 1) := by decide +kernel
theorem dX6_clearForms_18 : decode cX6_clearForms 18 = .ok (.iconst 1, 1) := by decide +kernel
theorem dX6_clearForms_19 : decode cX6_clearForms 19 = .ok (.invokevirtual 50, 3) := by decide +kernel
theorem dX6_clearForms_22 : decode cX6_clearForms 22 = .ok (.ifCond .ne 9, 3) := by decide +kernel
theorem dX6_clearForms_25 : decode cX6_clearForms 25 = .ok (.iload_n 1, 1) := by decide +kernel
theorem dX6_clearForms_26 : decode cX6_clearForms 26 = .ok (.iconst 1, 1) := by decide +kernel
theorem dX6_clearForms_27 : decode cX6_clearForms 27 = .ok (.iload_n 2, 1) := by decide +kernel
theorem dX6_clearForms_28 : decode cX6_clearForms 28 = .ok (.ishl, 1) := by decide +kernel
theorem dX6_clearForms_29 : decode cX6_clearForms 29 = .ok (.ior, 1) := by decide +kernel
theorem dX6_clearForms_30 : decode cX6_clearForms 30 = .ok (.istore_n 1, 1) := by decide +kernel
theorem dX6_clearForms_31 : decode cX6_clearForms 31 = .ok (.iinc 2 1, 3) := by decide +kernel
theorem dX6_clearForms_34 : decode cX6_clearForms 34 = .ok (.goto (-30), 3) := by decide +kernel
theorem dX6_clearForms_37 : decode cX6_clearForms 37 = .ok (.iload_n 1, 1) := by decide +kernel
theorem dX6_clearForms_38 : decode cX6_clearForms 38 = .ok (.ireturn, 1) := by decide +kernel
theorem dX10_standsOn_0 : decode cX10_standsOn 0 = .ok (.iload_n 1, 1) := by decide +kernel
theorem dX10_standsOn_1 : decode cX10_standsOn 1 = .ok (.ifCond .eq 9, 3) := by decide +kernel
theorem dX10_standsOn_4 : decode cX10_standsOn 4 = .ok (.iload_n 0, 1) := by decide +kernel
theorem dX10_standsOn_5 : decode cX10_standsOn 5 = .ok (.iconst 1, 1) := by decide +kernel
theorem dX10_standsOn_6 : decode cX10_standsOn 6 = .ok (.iand, 1) := by decide +kernel
theorem dX10_standsOn_7 : decode cX10_standsOn 7 = .ok (.ifCond .eq 27, 3) := by decide +kernel
theorem dX10_standsOn_10 : decode cX10_standsOn 10 = .ok (.iload_n 2, 1) := by decide +kernel
theorem dX10_standsOn_11 : decode cX10_standsOn 11 = .ok (.ifCond .eq 9, 3) := by decide +kernel
theorem dX10_standsOn_14 : decode cX10_standsOn 14 = .ok (.iload_n 0, 1) := by decide +kernel
theorem dX10_standsOn_15 : decode cX10_standsOn 15 = .ok (.iconst 2, 1) := by decide +kernel
theorem dX10_standsOn_16 : decode cX10_standsOn 16 = .ok (.iand, 1) := by decide +kernel
theorem dX10_standsOn_17 : decode cX10_standsOn 17 = .ok (.ifCond .eq 17, 3) := by decide +kernel
theorem dX10_standsOn_20 : decode cX10_standsOn 20 = .ok (.iload_n 3, 1) := by decide +kernel
theorem dX10_standsOn_21 : decode cX10_standsOn 21 = .ok (.ifCond .eq 9, 3) := by decide +kernel
theorem dX10_standsOn_24 : decode cX10_standsOn 24 = .ok (.iload_n 0, 1) := by decide +kernel
theorem dX10_standsOn_25 : decode cX10_standsOn 25 = .ok (.iconst 4, 1) := by decide +kernel
theorem dX10_standsOn_26 : decode cX10_standsOn 26 = .ok (.iand, 1) := by decide +kernel
theorem dX10_standsOn_27 : decode cX10_standsOn 27 = .ok (.ifCond .eq 7, 3) := by decide +kernel
theorem dX10_standsOn_30 : decode cX10_standsOn 30 = .ok (.iconst 1, 1) := by decide +kernel
theorem dX10_standsOn_31 : decode cX10_standsOn 31 = .ok (.goto 4, 3) := by decide +kernel
theorem dX10_standsOn_34 : decode cX10_standsOn 34 = .ok (.iconst 0, 1) := by decide +kernel
theorem dX10_standsOn_35 : decode cX10_standsOn 35 = .ok (.ireturn, 1) := by decide +kernel
theorem dX9_takeOn_0 : decode cX9_takeOn 0 = .ok (.aload_n 0, 1) := by decide +kernel
theorem dX9_takeOn_1 : decode cX9_takeOn 1 = .ok (.aload_n 1, 1) := by decide +kernel
theorem dX9_takeOn_2 : decode cX9_takeOn 2 = .ok (.getfield 23, 3) := by decide +kernel
theorem dX9_takeOn_5 : decode cX9_takeOn 5 = .ok (.putfield 15, 3) := by decide +kernel
theorem dX9_takeOn_8 : decode cX9_takeOn 8 = .ok (.iconst 0, 1) := by decide +kernel
theorem dX9_takeOn_9 : decode cX9_takeOn 9 = .ok (.istore_n 3, 1) := by decide +kernel
theorem dX9_takeOn_10 : decode cX9_takeOn 10 = .ok (.iload_n 3, 1) := by decide +kernel
theorem dX9_takeOn_11 : decode cX9_takeOn 11 = .ok (.aload_n 0, 1) := by decide +kernel
theorem dX9_takeOn_12 : decode cX9_takeOn 12 = .ok (.getfield 15, 3) := by decide +kernel
theorem dX9_takeOn_15 : decode cX9_takeOn 15 = .ok (.if_icmp .gt 78, 3) := by decide +kernel
theorem dX9_takeOn_18 : decode cX9_takeOn 18 = .ok (.iconst 0, 1) := by decide +kernel
theorem dX9_takeOn_19 : decode cX9_takeOn 19 = .ok (.istore 4, 2) := by decide +kernel
theorem dX9_takeOn_21 : decode cX9_takeOn 21 = .ok (.iload 4, 2) := by decide +kernel
theorem dX9_takeOn_23 : decode cX9_takeOn 23 = .ok (.iload_n 3, 1) := by decide +kernel
theorem dX9_takeOn_24 : decode cX9_takeOn 24 = .ok (.if_icmp .gt 63, 3) := by decide +kernel
theorem dX9_takeOn_27 : decode cX9_takeOn 27 = .ok (.aload_n 0, 1) := by decide +kernel
theorem dX9_takeOn_28 : decode cX9_takeOn 28 = .ok (.getfield 15, 3) := by decide +kernel
theorem dX9_takeOn_31 : decode cX9_takeOn 31 = .ok (.iload_n 3, 1) := by decide +kernel
theorem dX9_takeOn_32 : decode cX9_takeOn 32 = .ok (.isub, 1) := by decide +kernel
theorem dX9_takeOn_33 : decode cX9_takeOn 33 = .ok (.istore 5, 2) := by decide +kernel
theorem dX9_takeOn_35 : decode cX9_takeOn 35 = .ok (.iload_n 3, 1) := by decide +kernel
theorem dX9_takeOn_36 : decode cX9_takeOn 36 = .ok (.iload 4, 2) := by decide +kernel
theorem dX9_takeOn_38 : decode cX9_takeOn 38 = .ok (.isub, 1) := by decide +kernel
theorem dX9_takeOn_39 : decode cX9_takeOn 39 = .ok (.istore 6, 2) := by decide +kernel
theorem dX9_takeOn_41 : decode cX9_takeOn 41 = .ok (.aload_n 0, 1) := by decide +kernel
theorem dX9_takeOn_42 : decode cX9_takeOn 42 = .ok (.getfield 9, 3) := by decide +kernel
theorem dX9_takeOn_45 : decode cX9_takeOn 45 = .ok (.iload 6, 2) := by decide +kernel
theorem dX9_takeOn_47 : decode cX9_takeOn 47 = .ok (.iload 4, 2) := by decide +kernel
theorem dX9_takeOn_49 : decode cX9_takeOn 49 = .ok (.invokestatic 26, 3) := by decide +kernel
theorem dX9_takeOn_52 : decode cX9_takeOn 52 = .ok (.iload_n 2, 1) := by decide +kernel
theorem dX9_takeOn_53 : decode cX9_takeOn 53 = .ok (.iload 5, 2) := by decide +kernel
theorem dX9_takeOn_55 : decode cX9_takeOn 55 = .ok (.iload 6, 2) := by decide +kernel
theorem dX9_takeOn_57 : decode cX9_takeOn 57 = .ok (.iload 4, 2) := by decide +kernel
theorem dX9_takeOn_59 : decode cX9_takeOn 59 = .ok (.invokestatic 30, 3) := by decide +kernel
theorem dX9_takeOn_62 : decode cX9_takeOn 62 = .ok (.ifCond .eq 17, 3) := by decide +kernel
theorem dX9_takeOn_65 : decode cX9_takeOn 65 = .ok (.aload_n 1, 1) := by decide +kernel
theorem dX9_takeOn_66 : decode cX9_takeOn 66 = .ok (.iload 5, 2) := by decide +kernel
theorem dX9_takeOn_68 : decode cX9_takeOn 68 = .ok (.iload 6, 2) := by decide +kernel
theorem dX9_takeOn_70 : decode cX9_takeOn 70 = .ok (.iload 4, 2) := by decide +kernel
theorem dX9_takeOn_72 : decode cX9_takeOn 72 = .ok (.invokevirtual 34, 3) := by decide +kernel
theorem dX9_takeOn_75 : decode cX9_takeOn 75 = .ok (.i2l, 1) := by decide +kernel
theorem dX9_takeOn_76 : decode cX9_takeOn 76 = .ok (.goto 4, 3) := by decide +kernel
theorem dX9_takeOn_79 : decode cX9_takeOn 79 = .ok (.lconst 0, 1) := by decide +kernel
theorem dX9_takeOn_80 : decode cX9_takeOn 80 = .ok (.lastore, 1) := by decide +kernel
theorem dX9_takeOn_81 : decode cX9_takeOn 81 = .ok (.iinc 4 1, 3) := by decide +kernel
theorem dX9_takeOn_84 : decode cX9_takeOn 84 = .ok (.goto (-63), 3) := by decide +kernel
theorem dX9_takeOn_87 : decode cX9_takeOn 87 = .ok (.iinc 3 1, 3) := by decide +kernel
theorem dX9_takeOn_90 : decode cX9_takeOn 90 = .ok (.goto (-80), 3) := by decide +kernel
theorem dX9_takeOn_93 : decode cX9_takeOn 93 = .ok (.return_, 1) := by decide +kernel
theorem dX6_settle_0 : decode cX6_settle 0 = .ok (.aload_n 0, 1) := by decide +kernel
theorem dX6_settle_1 : decode cX6_settle 1 = .ok (.invokevirtual 146, 3) := by decide +kernel
theorem dX6_settle_4 : decode cX6_settle 4 = .ok (.ifCond .ne 15, 3) := by decide +kernel
theorem dX6_settle_7 : decode cX6_settle 7 = .ok (.aload_n 0, 1) := by decide +kernel
theorem dX6_settle_8 : decode cX6_settle 8 = .ok (.getfield 23, 3) := by decide +kernel
theorem dX6_settle_11 : decode cX6_settle 11 = .ok (.getfield 117, 3) := by decide +kernel
theorem dX6_settle_14 : decode cX6_settle 14 = .ok (.bipush 6, 2) := by decide +kernel
theorem dX6_settle_16 : decode cX6_settle 16 = .ok (.if_icmp .le 5, 3) := by decide +kernel
theorem dX6_settle_19 : decode cX6_settle 19 = .ok (.iconst 0, 1) := by decide +kernel
theorem dX6_settle_20 : decode cX6_settle 20 = .ok (.ireturn, 1) := by decide +kernel
theorem dX6_settle_21 : decode cX6_settle 21 = .ok (.aload_n 0, 1) := by decide +kernel
theorem dX6_settle_22 : decode cX6_settle 22 = .ok (.getfield 23, 3) := by decide +kernel
theorem dX6_settle_25 : decode cX6_settle 25 = .ok (.getfield 117, 3) := by decide +kernel
theorem dX6_settle_28 : decode cX6_settle 28 = .ok (.invokestatic 46, 3) := by decide +kernel
theorem dX6_settle_31 : decode cX6_settle 31 = .ok (.istore_n 1, 1) := by decide +kernel
theorem dX6_settle_32 : decode cX6_settle 32 = .ok (.iconst 0, 1) := by decide +kernel
theorem dX6_settle_33 : decode cX6_settle 33 = .ok (.istore_n 2, 1) := by decide +kernel
theorem dX6_settle_34 : decode cX6_settle 34 = .ok (.iload_n 2, 1) := by decide +kernel
theorem dX6_settle_35 : decode cX6_settle 35 = .ok (.iload_n 1, 1) := by decide +kernel
theorem dX6_settle_36 : decode cX6_settle 36 = .ok (.if_icmp .ge 43, 3) := by decide +kernel
theorem dX6_settle_39 : decode cX6_settle 39 = .ok (.aload_n 0, 1) := by decide +kernel
theorem dX6_settle_40 : decode cX6_settle 40 = .ok (.getfield 23, 3) := by decide +kernel
theorem dX6_settle_43 : decode cX6_settle 43 = .ok (.getfield 118, 3) := by decide +kernel
theorem dX6_settle_46 : decode cX6_settle 46 = .ok (.iload_n 2, 1) := by decide +kernel
theorem dX6_settle_47 : decode cX6_settle 47 = .ok (.laload, 1) := by decide +kernel
theorem dX6_settle_48 : decode cX6_settle 48 = .ok (.ldc2_w 149, 3) := by decide +kernel
theorem dX6_settle_51 : decode cX6_settle 51 = .ok (.lcmp, 1) := by decide +kernel
theorem dX6_settle_52 : decode cX6_settle 52 = .ok (.ifCond .lt 19, 3) := by decide +kernel
theorem dX6_settle_55 : decode cX6_settle 55 = .ok (.aload_n 0, 1) := by decide +kernel
theorem dX6_settle_56 : decode cX6_settle 56 = .ok (.getfield 23, 3) := by decide +kernel
theorem dX6_settle_59 : decode cX6_settle 59 = .ok (.getfield 118, 3) := by decide +kernel
theorem dX6_settle_62 : decode cX6_settle 62 = .ok (.iload_n 2, 1) := by decide +kernel
theorem dX6_settle_63 : decode cX6_settle 63 = .ok (.laload, 1) := by decide +kernel
theorem dX6_settle_64 : decode cX6_settle 64 = .ok (.ldc2_w 151, 3) := by decide +kernel
theorem dX6_settle_67 : decode cX6_settle 67 = .ok (.lcmp, 1) := by decide +kernel
theorem dX6_settle_68 : decode cX6_settle 68 = .ok (.ifCond .le 5, 3) := by decide +kernel
theorem dX6_settle_71 : decode cX6_settle 71 = .ok (.iconst 0, 1) := by decide +kernel
theorem dX6_settle_72 : decode cX6_settle 72 = .ok (.ireturn, 1) := by decide +kernel
theorem dX6_settle_73 : decode cX6_settle 73 = .ok (.iinc 2 1, 3) := by decide +kernel
theorem dX6_settle_76 : decode cX6_settle 76 = .ok (.goto (-42), 3) := by decide +kernel
theorem dX6_settle_79 : decode cX6_settle 79 = .ok (.aload_n 0, 1) := by decide +kernel
theorem dX6_settle_80 : decode cX6_settle 80 = .ok (.getfield 11, 3) := by decide +kernel
theorem dX6_settle_83 : decode cX6_settle 83 = .ok (.aload_n 0, 1) := by decide +kernel
theorem dX6_settle_84 : decode cX6_settle 84 = .ok (.getfield 32, 3) := by decide +kernel
theorem dX6_settle_87 : decode cX6_settle 87 = .ok (.aaload, 1) := by decide +kernel
theorem dX6_settle_88 : decode cX6_settle 88 = .ok (.astore_n 2, 1) := by decide +kernel
theorem dX6_settle_89 : decode cX6_settle 89 = .ok (.aload_n 2, 1) := by decide +kernel
theorem dX6_settle_90 : decode cX6_settle 90 = .ok (.invokevirtual 153, 3) := by decide +kernel
theorem dX6_settle_93 : decode cX6_settle 93 = .ok (.aload_n 2, 1) := by decide +kernel
theorem dX6_settle_94 : decode cX6_settle 94 = .ok (.aload_n 0, 1) := by decide +kernel
theorem dX6_settle_95 : decode cX6_settle 95 = .ok (.getfield 23, 3) := by decide +kernel
theorem dX6_settle_98 : decode cX6_settle 98 = .ok (.getfield 117, 3) := by decide +kernel
theorem dX6_settle_101 : decode cX6_settle 101 = .ok (.putfield 43, 3) := by decide +kernel
theorem dX6_settle_104 : decode cX6_settle 104 = .ok (.iconst 0, 1) := by decide +kernel
theorem dX6_settle_105 : decode cX6_settle 105 = .ok (.istore_n 3, 1) := by decide +kernel
theorem dX6_settle_106 : decode cX6_settle 106 = .ok (.iload_n 3, 1) := by decide +kernel
theorem dX6_settle_107 : decode cX6_settle 107 = .ok (.iload_n 1, 1) := by decide +kernel
theorem dX6_settle_108 : decode cX6_settle 108 = .ok (.if_icmp .ge 25, 3) := by decide +kernel
theorem dX6_settle_111 : decode cX6_settle 111 = .ok (.aload_n 2, 1) := by decide +kernel
theorem dX6_settle_112 : decode cX6_settle 112 = .ok (.getfield 155, 3) := by decide +kernel
theorem dX6_settle_115 : decode cX6_settle 115 = .ok (.iload_n 3, 1) := by decide +kernel
theorem dX6_settle_116 : decode cX6_settle 116 = .ok (.aload_n 0, 1) := by decide +kernel
theorem dX6_settle_117 : decode cX6_settle 117 = .ok (.getfield 23, 3) := by decide +kernel
theorem dX6_settle_120 : decode cX6_settle 120 = .ok (.getfield 118, 3) := by decide +kernel
theorem dX6_settle_123 : decode cX6_settle 123 = .ok (.iload_n 3, 1) := by decide +kernel
theorem dX6_settle_124 : decode cX6_settle 124 = .ok (.laload, 1) := by decide +kernel
theorem dX6_settle_125 : decode cX6_settle 125 = .ok (.l2i, 1) := by decide +kernel
theorem dX6_settle_126 : decode cX6_settle 126 = .ok (.iastore, 1) := by decide +kernel
theorem dX6_settle_127 : decode cX6_settle 127 = .ok (.iinc 3 1, 3) := by decide +kernel
theorem dX6_settle_130 : decode cX6_settle 130 = .ok (.goto (-24), 3) := by decide +kernel
theorem dX6_settle_133 : decode cX6_settle 133 = .ok (.aload_n 0, 1) := by decide +kernel
theorem dX6_settle_134 : decode cX6_settle 134 = .ok (.dup, 1) := by decide +kernel
theorem dX6_settle_135 : decode cX6_settle 135 = .ok (.getfield 32, 3) := by decide +kernel
theorem dX6_settle_138 : decode cX6_settle 138 = .ok (.iconst 1, 1) := by decide +kernel
theorem dX6_settle_139 : decode cX6_settle 139 = .ok (.iadd, 1) := by decide +kernel
theorem dX6_settle_140 : decode cX6_settle 140 = .ok (.putfield 32, 3) := by decide +kernel
theorem dX6_settle_143 : decode cX6_settle 143 = .ok (.iconst 1, 1) := by decide +kernel
theorem dX6_settle_144 : decode cX6_settle 144 = .ok (.ireturn, 1) := by decide +kernel
theorem dX6_bringSum_0 : decode cX6_bringSum 0 = .ok (.aload_n 0, 1) := by decide +kernel
theorem dX6_bringSum_1 : decode cX6_bringSum 1 = .ok (.getfield 11, 3) := by decide +kernel
theorem dX6_bringSum_4 : decode cX6_bringSum 4 = .ok (.iload_n 1, 1) := by decide +kernel
theorem dX6_bringSum_5 : decode cX6_bringSum 5 = .ok (.aaload, 1) := by decide +kernel
theorem dX6_bringSum_6 : decode cX6_bringSum 6 = .ok (.getfield 43, 3) := by decide +kernel
theorem dX6_bringSum_9 : decode cX6_bringSum 9 = .ok (.aload_n 0, 1) := by decide +kernel
theorem dX6_bringSum_10 : decode cX6_bringSum 10 = .ok (.getfield 11, 3) := by decide +kernel
theorem dX6_bringSum_13 : decode cX6_bringSum 13 = .ok (.iload_n 2, 1) := by decide +kernel
theorem dX6_bringSum_14 : decode cX6_bringSum 14 = .ok (.aaload, 1) := by decide +kernel
theorem dX6_bringSum_15 : decode cX6_bringSum 15 = .ok (.getfield 43, 3) := by decide +kernel
theorem dX6_bringSum_18 : decode cX6_bringSum 18 = .ok (.if_icmp .eq 5, 3) := by decide +kernel
theorem dX6_bringSum_21 : decode cX6_bringSum 21 = .ok (.iconst 0, 1) := by decide +kernel
theorem dX6_bringSum_22 : decode cX6_bringSum 22 = .ok (.ireturn, 1) := by decide +kernel
theorem dX6_bringSum_23 : decode cX6_bringSum 23 = .ok (.aload_n 0, 1) := by decide +kernel
theorem dX6_bringSum_24 : decode cX6_bringSum 24 = .ok (.getfield 23, 3) := by decide +kernel
theorem dX6_bringSum_27 : decode cX6_bringSum 27 = .ok (.aload_n 0, 1) := by decide +kernel
theorem dX6_bringSum_28 : decode cX6_bringSum 28 = .ok (.getfield 11, 3) := by decide +kernel
theorem dX6_bringSum_31 : decode cX6_bringSum 31 = .ok (.iload_n 1, 1) := by decide +kernel
theorem dX6_bringSum_32 : decode cX6_bringSum 32 = .ok (.aaload, 1) := by decide +kernel
theorem dX6_bringSum_33 : decode cX6_bringSum 33 = .ok (.bipush 7, 2) := by decide +kernel
theorem dX6_bringSum_35 : decode cX6_bringSum 35 = .ok (.invokevirtual 113, 3) := by decide +kernel
theorem dX6_bringSum_38 : decode cX6_bringSum 38 = .ok (.iconst 0, 1) := by decide +kernel
theorem dX6_bringSum_39 : decode cX6_bringSum 39 = .ok (.istore_n 3, 1) := by decide +kernel
theorem dX6_bringSum_40 : decode cX6_bringSum 40 = .ok (.iload_n 3, 1) := by decide +kernel
theorem dX6_bringSum_41 : decode cX6_bringSum 41 = .ok (.aload_n 0, 1) := by decide +kernel
theorem dX6_bringSum_42 : decode cX6_bringSum 42 = .ok (.getfield 23, 3) := by decide +kernel
theorem dX6_bringSum_45 : decode cX6_bringSum 45 = .ok (.getfield 117, 3) := by decide +kernel
theorem dX6_bringSum_48 : decode cX6_bringSum 48 = .ok (.invokestatic 46, 3) := by decide +kernel
theorem dX6_bringSum_51 : decode cX6_bringSum 51 = .ok (.if_icmp .ge 32, 3) := by decide +kernel
theorem dX6_bringSum_54 : decode cX6_bringSum 54 = .ok (.aload_n 0, 1) := by decide +kernel
theorem dX6_bringSum_55 : decode cX6_bringSum 55 = .ok (.getfield 23, 3) := by decide +kernel
theorem dX6_bringSum_58 : decode cX6_bringSum 58 = .ok (.getfield 118, 3) := by decide +kernel
theorem dX6_bringSum_61 : decode cX6_bringSum 61 = .ok (.iload_n 3, 1) := by decide +kernel
theorem dX6_bringSum_62 : decode cX6_bringSum 62 = .ok (.dup2, 1) := by decide +kernel
theorem dX6_bringSum_63 : decode cX6_bringSum 63 = .ok (.laload, 1) := by decide +kernel
theorem dX6_bringSum_64 : decode cX6_bringSum 64 = .ok (.aload_n 0, 1) := by decide +kernel
theorem dX6_bringSum_65 : decode cX6_bringSum 65 = .ok (.getfield 11, 3) := by decide +kernel
theorem dX6_bringSum_68 : decode cX6_bringSum 68 = .ok (.iload_n 2, 1) := by decide +kernel
theorem dX6_bringSum_69 : decode cX6_bringSum 69 = .ok (.aaload, 1) := by decide +kernel
theorem dX6_bringSum_70 : decode cX6_bringSum 70 = .ok (.iload_n 3, 1) := by decide +kernel
theorem dX6_bringSum_71 : decode cX6_bringSum 71 = .ok (.invokevirtual 63, 3) := by decide +kernel
theorem dX6_bringSum_74 : decode cX6_bringSum 74 = .ok (.i2l, 1) := by decide +kernel
theorem dX6_bringSum_75 : decode cX6_bringSum 75 = .ok (.ladd, 1) := by decide +kernel
theorem dX6_bringSum_76 : decode cX6_bringSum 76 = .ok (.lastore, 1) := by decide +kernel
theorem dX6_bringSum_77 : decode cX6_bringSum 77 = .ok (.iinc 3 1, 3) := by decide +kernel
theorem dX6_bringSum_80 : decode cX6_bringSum 80 = .ok (.goto (-40), 3) := by decide +kernel
theorem dX6_bringSum_83 : decode cX6_bringSum 83 = .ok (.aload_n 0, 1) := by decide +kernel
theorem dX6_bringSum_84 : decode cX6_bringSum 84 = .ok (.invokevirtual 122, 3) := by decide +kernel
theorem dX6_bringSum_87 : decode cX6_bringSum 87 = .ok (.ireturn, 1) := by decide +kernel
theorem dX9_makeNought_0 : decode cX9_makeNought 0 = .ok (.aload_n 0, 1) := by decide +kernel
theorem dX9_makeNought_1 : decode cX9_makeNought 1 = .ok (.iload_n 1, 1) := by decide +kernel
theorem dX9_makeNought_2 : decode cX9_makeNought 2 = .ok (.putfield 15, 3) := by decide +kernel
theorem dX9_makeNought_5 : decode cX9_makeNought 5 = .ok (.iconst 0, 1) := by decide +kernel
theorem dX9_makeNought_6 : decode cX9_makeNought 6 = .ok (.istore_n 2, 1) := by decide +kernel
theorem dX9_makeNought_7 : decode cX9_makeNought 7 = .ok (.iload_n 2, 1) := by decide +kernel
theorem dX9_makeNought_8 : decode cX9_makeNought 8 = .ok (.aload_n 0, 1) := by decide +kernel
theorem dX9_makeNought_9 : decode cX9_makeNought 9 = .ok (.getfield 15, 3) := by decide +kernel
theorem dX9_makeNought_12 : decode cX9_makeNought 12 = .ok (.invokestatic 19, 3) := by decide +kernel
theorem dX9_makeNought_15 : decode cX9_makeNought 15 = .ok (.if_icmp .ge 16, 3) := by decide +kernel
theorem dX9_makeNought_18 : decode cX9_makeNought 18 = .ok (.aload_n 0, 1) := by decide +kernel
theorem dX9_makeNought_19 : decode cX9_makeNought 19 = .ok (.getfield 9, 3) := by decide +kernel
theorem dX9_makeNought_22 : decode cX9_makeNought 22 = .ok (.iload_n 2, 1) := by decide +kernel
theorem dX9_makeNought_23 : decode cX9_makeNought 23 = .ok (.lconst 0, 1) := by decide +kernel
theorem dX9_makeNought_24 : decode cX9_makeNought 24 = .ok (.lastore, 1) := by decide +kernel
theorem dX9_makeNought_25 : decode cX9_makeNought 25 = .ok (.iinc 2 1, 3) := by decide +kernel
theorem dX9_makeNought_28 : decode cX9_makeNought 28 = .ok (.goto (-21), 3) := by decide +kernel
theorem dX9_makeNought_31 : decode cX9_makeNought 31 = .ok (.return_, 1) := by decide +kernel
theorem dX6_addTimes_0 : decode cX6_addTimes 0 = .ok (.lload_n 1, 1) := by decide +kernel
theorem dX6_addTimes_1 : decode cX6_addTimes 1 = .ok (.lconst 0, 1) := by decide +kernel
theorem dX6_addTimes_2 : decode cX6_addTimes 2 = .ok (.lcmp, 1) := by decide +kernel
theorem dX6_addTimes_3 : decode cX6_addTimes 3 = .ok (.ifCond .ne 4, 3) := by decide +kernel
theorem dX6_addTimes_6 : decode cX6_addTimes 6 = .ok (.return_, 1) := by decide +kernel
theorem dX6_addTimes_7 : decode cX6_addTimes 7 = .ok (.iconst 0, 1) := by decide +kernel
theorem dX6_addTimes_8 : decode cX6_addTimes 8 = .ok (.istore 6, 2) := by decide +kernel
theorem dX6_addTimes_10 : decode cX6_addTimes 10 = .ok (.iload 6, 2) := by decide +kernel
theorem dX6_addTimes_12 : decode cX6_addTimes 12 = .ok (.aload 5, 2) := by decide +kernel
theorem dX6_addTimes_14 : decode cX6_addTimes 14 = .ok (.getfield 43, 3) := by decide +kernel
theorem dX6_addTimes_17 : decode cX6_addTimes 17 = .ok (.if_icmp .gt 74, 3) := by decide +kernel
theorem dX6_addTimes_20 : decode cX6_addTimes 20 = .ok (.iconst 0, 1) := by decide +kernel
theorem dX6_addTimes_21 : decode cX6_addTimes 21 = .ok (.istore 7, 2) := by decide +kernel
theorem dX6_addTimes_23 : decode cX6_addTimes 23 = .ok (.iload 7, 2) := by decide +kernel
theorem dX6_addTimes_25 : decode cX6_addTimes 25 = .ok (.iload 6, 2) := by decide +kernel
theorem dX6_addTimes_27 : decode cX6_addTimes 27 = .ok (.if_icmp .gt 58, 3) := by decide +kernel
theorem dX6_addTimes_30 : decode cX6_addTimes 30 = .ok (.aload_n 0, 1) := by decide +kernel
theorem dX6_addTimes_31 : decode cX6_addTimes 31 = .ok (.getfield 23, 3) := by decide +kernel
theorem dX6_addTimes_34 : decode cX6_addTimes 34 = .ok (.getfield 118, 3) := by decide +kernel
theorem dX6_addTimes_37 : decode cX6_addTimes 37 = .ok (.iload_n 3, 1) := by decide +kernel
theorem dX6_addTimes_38 : decode cX6_addTimes 38 = .ok (.iload 6, 2) := by decide +kernel
theorem dX6_addTimes_40 : decode cX6_addTimes 40 = .ok (.iadd, 1) := by decide +kernel
theorem dX6_addTimes_41 : decode cX6_addTimes 41 = .ok (.iload 7, 2) := by decide +kernel
theorem dX6_addTimes_43 : decode cX6_addTimes 43 = .ok (.isub, 1) := by decide +kernel
theorem dX6_addTimes_44 : decode cX6_addTimes 44 = .ok (.iload 4, 2) := by decide +kernel
theorem dX6_addTimes_46 : decode cX6_addTimes 46 = .ok (.iload 7, 2) := by decide +kernel
theorem dX6_addTimes_48 : decode cX6_addTimes 48 = .ok (.iadd, 1) := by decide +kernel
theorem dX6_addTimes_49 : decode cX6_addTimes 49 = .ok (.invokestatic 138, 3) := by decide +kernel
theorem dX6_addTimes_52 : decode cX6_addTimes 52 = .ok (.dup2, 1) := by decide +kernel
theorem dX6_addTimes_53 : decode cX6_addTimes 53 = .ok (.laload, 1) := by decide +kernel
theorem dX6_addTimes_54 : decode cX6_addTimes 54 = .ok (.lload_n 1, 1) := by decide +kernel
theorem dX6_addTimes_55 : decode cX6_addTimes 55 = .ok (.aload 5, 2) := by decide +kernel
theorem dX6_addTimes_57 : decode cX6_addTimes 57 = .ok (.aload 5, 2) := by decide +kernel
theorem dX6_addTimes_59 : decode cX6_addTimes 59 = .ok (.getfield 43, 3) := by decide +kernel
theorem dX6_addTimes_62 : decode cX6_addTimes 62 = .ok (.iload 6, 2) := by decide +kernel
theorem dX6_addTimes_64 : decode cX6_addTimes 64 = .ok (.isub, 1) := by decide +kernel
theorem dX6_addTimes_65 : decode cX6_addTimes 65 = .ok (.iload 6, 2) := by decide +kernel
theorem dX6_addTimes_67 : decode cX6_addTimes 67 = .ok (.iload 7, 2) := by decide +kernel
theorem dX6_addTimes_69 : decode cX6_addTimes 69 = .ok (.isub, 1) := by decide +kernel
theorem dX6_addTimes_70 : decode cX6_addTimes 70 = .ok (.iload 7, 2) := by decide +kernel
theorem dX6_addTimes_72 : decode cX6_addTimes 72 = .ok (.invokevirtual 130, 3) := by decide +kernel
theorem dX6_addTimes_75 : decode cX6_addTimes 75 = .ok (.i2l, 1) := by decide +kernel
theorem dX6_addTimes_76 : decode cX6_addTimes 76 = .ok (.lmul, 1) := by decide +kernel
theorem dX6_addTimes_77 : decode cX6_addTimes 77 = .ok (.ladd, 1) := by decide +kernel
theorem dX6_addTimes_78 : decode cX6_addTimes 78 = .ok (.lastore, 1) := by decide +kernel
theorem dX6_addTimes_79 : decode cX6_addTimes 79 = .ok (.iinc 7 1, 3) := by decide +kernel
theorem dX6_addTimes_82 : decode cX6_addTimes 82 = .ok (.goto (-59), 3) := by decide +kernel
theorem dX6_addTimes_85 : decode cX6_addTimes 85 = .ok (.iinc 6 1, 3) := by decide +kernel
theorem dX6_addTimes_88 : decode cX6_addTimes 88 = .ok (.goto (-78), 3) := by decide +kernel
theorem dX6_addTimes_91 : decode cX6_addTimes 91 = .ok (.return_, 1) := by decide +kernel
theorem dX6_bringProduct_0 : decode cX6_bringProduct 0 = .ok (.aload_n 0, 1) := by decide +kernel
theorem dX6_bringProduct_1 : decode cX6_bringProduct 1 = .ok (.getfield 11, 3) := by decide +kernel
theorem dX6_bringProduct_4 : decode cX6_bringProduct 4 = .ok (.iload_n 1, 1) := by decide +kernel
theorem dX6_bringProduct_5 : decode cX6_bringProduct 5 = .ok (.aaload, 1) := by decide +kernel
theorem dX6_bringProduct_6 : decode cX6_bringProduct 6 = .ok (.astore_n 3, 1) := by decide +kernel
theorem dX6_bringProduct_7 : decode cX6_bringProduct 7 = .ok (.aload_n 0, 1) := by decide +kernel
theorem dX6_bringProduct_8 : decode cX6_bringProduct 8 = .ok (.getfield 11, 3) := by decide +kernel
theorem dX6_bringProduct_11 : decode cX6_bringProduct 11 = .ok (.iload_n 2, 1) := by decide +kernel
theorem dX6_bringProduct_12 : decode cX6_bringProduct 12 = .ok (.aaload, 1) := by decide +kernel
theorem dX6_bringProduct_13 : decode cX6_bringProduct 13 = .ok (.astore 4, 2) := by decide +kernel
theorem dX6_bringProduct_15 : decode cX6_bringProduct 15 = .ok (.aload_n 0, 1) := by decide +kernel
theorem dX6_bringProduct_16 : decode cX6_bringProduct 16 = .ok (.getfield 23, 3) := by decide +kernel
theorem dX6_bringProduct_19 : decode cX6_bringProduct 19 = .ok (.aload_n 3, 1) := by decide +kernel
theorem dX6_bringProduct_20 : decode cX6_bringProduct 20 = .ok (.getfield 43, 3) := by decide +kernel
theorem dX6_bringProduct_23 : decode cX6_bringProduct 23 = .ok (.aload 4, 2) := by decide +kernel
theorem dX6_bringProduct_25 : decode cX6_bringProduct 25 = .ok (.getfield 43, 3) := by decide +kernel
theorem dX6_bringProduct_28 : decode cX6_bringProduct 28 = .ok (.iadd, 1) := by decide +kernel
theorem dX6_bringProduct_29 : decode cX6_bringProduct 29 = .ok (.invokevirtual 126, 3) := by decide +kernel
theorem dX6_bringProduct_32 : decode cX6_bringProduct 32 = .ok (.iconst 0, 1) := by decide +kernel
theorem dX6_bringProduct_33 : decode cX6_bringProduct 33 = .ok (.istore 5, 2) := by decide +kernel
theorem dX6_bringProduct_35 : decode cX6_bringProduct 35 = .ok (.iload 5, 2) := by decide +kernel
theorem dX6_bringProduct_37 : decode cX6_bringProduct 37 = .ok (.aload_n 3, 1) := by decide +kernel
theorem dX6_bringProduct_38 : decode cX6_bringProduct 38 = .ok (.getfield 43, 3) := by decide +kernel
theorem dX6_bringProduct_41 : decode cX6_bringProduct 41 = .ok (.if_icmp .gt 57, 3) := by decide +kernel
theorem dX6_bringProduct_44 : decode cX6_bringProduct 44 = .ok (.iconst 0, 1) := by decide +kernel
theorem dX6_bringProduct_45 : decode cX6_bringProduct 45 = .ok (.istore 6, 2) := by decide +kernel
theorem dX6_bringProduct_47 : decode cX6_bringProduct 47 = .ok (.iload 6, 2) := by decide +kernel
theorem dX6_bringProduct_49 : decode cX6_bringProduct 49 = .ok (.iload 5, 2) := by decide +kernel
theorem dX6_bringProduct_51 : decode cX6_bringProduct 51 = .ok (.if_icmp .gt 41, 3) := by decide +kernel
theorem dX6_bringProduct_54 : decode cX6_bringProduct 54 = .ok (.aload_n 0, 1) := by decide +kernel
theorem dX6_bringProduct_55 : decode cX6_bringProduct 55 = .ok (.aload_n 3, 1) := by decide +kernel
theorem dX6_bringProduct_56 : decode cX6_bringProduct 56 = .ok (.aload_n 3, 1) := by decide +kernel
theorem dX6_bringProduct_57 : decode cX6_bringProduct 57 = .ok (.getfield 43, 3) := by decide +kernel
theorem dX6_bringProduct_60 : decode cX6_bringProduct 60 = .ok (.iload 5, 2) := by decide +kernel
theorem dX6_bringProduct_62 : decode cX6_bringProduct 62 = .ok (.isub, 1) := by decide +kernel
theorem dX6_bringProduct_63 : decode cX6_bringProduct 63 = .ok (.iload 5, 2) := by decide +kernel
theorem dX6_bringProduct_65 : decode cX6_bringProduct 65 = .ok (.iload 6, 2) := by decide +kernel
theorem dX6_bringProduct_67 : decode cX6_bringProduct 67 = .ok (.isub, 1) := by decide +kernel
theorem dX6_bringProduct_68 : decode cX6_bringProduct 68 = .ok (.iload 6, 2) := by decide +kernel
theorem dX6_bringProduct_70 : decode cX6_bringProduct 70 = .ok (.invokevirtual 130, 3) := by decide +kernel
theorem dX6_bringProduct_73 : decode cX6_bringProduct 73 = .ok (.i2l, 1) := by decide +kernel
theorem dX6_bringProduct_74 : decode cX6_bringProduct 74 = .ok (.iload 5, 2) := by decide +kernel
theorem dX6_bringProduct_76 : decode cX6_bringProduct 76 = .ok (.iload 6, 2) := by decide +kernel
theorem dX6_bringProduct_78 : decode cX6_bringProduct 78 = .ok (.isub, 1) := by decide +kernel
theorem dX6_bringProduct_79 : decode cX6_bringProduct 79 = .ok (.iload 6, 2) := by decide +kernel
theorem dX6_bringProduct_81 : decode cX6_bringProduct 81 = .ok (.aload 4, 2) := by decide +kernel
theorem dX6_bringProduct_83 : decode cX6_bringProduct 83 = .ok (.invokevirtual 134, 3) := by decide +kernel
theorem dX6_bringProduct_86 : decode cX6_bringProduct 86 = .ok (.iinc 6 1, 3) := by decide +kernel
theorem dX6_bringProduct_89 : decode cX6_bringProduct 89 = .ok (.goto (-42), 3) := by decide +kernel
theorem dX6_bringProduct_92 : decode cX6_bringProduct 92 = .ok (.iinc 5 1, 3) := by decide +kernel
theorem dX6_bringProduct_95 : decode cX6_bringProduct 95 = .ok (.goto (-60), 3) := by decide +kernel
theorem dX6_bringProduct_98 : decode cX6_bringProduct 98 = .ok (.aload_n 0, 1) := by decide +kernel
theorem dX6_bringProduct_99 : decode cX6_bringProduct 99 = .ok (.invokevirtual 122, 3) := by decide +kernel
theorem dX6_bringProduct_102 : decode cX6_bringProduct 102 = .ok (.ireturn, 1) := by decide +kernel
theorem dX9_raiseOnce_0 : decode cX9_raiseOnce 0 = .ok (.aload_n 0, 1) := by decide +kernel
theorem dX9_raiseOnce_1 : decode cX9_raiseOnce 1 = .ok (.getfield 15, 3) := by decide +kernel
theorem dX9_raiseOnce_4 : decode cX9_raiseOnce 4 = .ok (.bipush 18, 2) := by decide +kernel
theorem dX9_raiseOnce_6 : decode cX9_raiseOnce 6 = .ok (.if_icmp .lt 4, 3) := by decide +kernel
theorem dX9_raiseOnce_9 : decode cX9_raiseOnce 9 = .ok (.return_, 1) := by decide +kernel
theorem dX9_raiseOnce_10 : decode cX9_raiseOnce 10 = .ok (.aload_n 0, 1) := by decide +kernel
theorem dX9_raiseOnce_11 : decode cX9_raiseOnce 11 = .ok (.dup, 1) := by decide +kernel
theorem dX9_raiseOnce_12 : decode cX9_raiseOnce 12 = .ok (.getfield 15, 3) := by decide +kernel
theorem dX9_raiseOnce_15 : decode cX9_raiseOnce 15 = .ok (.iconst 1, 1) := by decide +kernel
theorem dX9_raiseOnce_16 : decode cX9_raiseOnce 16 = .ok (.iadd, 1) := by decide +kernel
theorem dX9_raiseOnce_17 : decode cX9_raiseOnce 17 = .ok (.putfield 15, 3) := by decide +kernel
theorem dX9_raiseOnce_20 : decode cX9_raiseOnce 20 = .ok (.aload_n 0, 1) := by decide +kernel
theorem dX9_raiseOnce_21 : decode cX9_raiseOnce 21 = .ok (.getfield 15, 3) := by decide +kernel
theorem dX9_raiseOnce_24 : decode cX9_raiseOnce 24 = .ok (.istore_n 2, 1) := by decide +kernel
theorem dX9_raiseOnce_25 : decode cX9_raiseOnce 25 = .ok (.iload_n 2, 1) := by decide +kernel
theorem dX9_raiseOnce_26 : decode cX9_raiseOnce 26 = .ok (.ifCond .lt 129, 3) := by decide +kernel
theorem dX9_raiseOnce_29 : decode cX9_raiseOnce 29 = .ok (.iload_n 2, 1) := by decide +kernel
theorem dX9_raiseOnce_30 : decode cX9_raiseOnce 30 = .ok (.istore_n 3, 1) := by decide +kernel
theorem dX9_raiseOnce_31 : decode cX9_raiseOnce 31 = .ok (.iload_n 3, 1) := by decide +kernel
theorem dX9_raiseOnce_32 : decode cX9_raiseOnce 32 = .ok (.ifCond .lt 117, 3) := by decide +kernel
theorem dX9_raiseOnce_35 : decode cX9_raiseOnce 35 = .ok (.iload_n 2, 1) := by decide +kernel
theorem dX9_raiseOnce_36 : decode cX9_raiseOnce 36 = .ok (.iload_n 3, 1) := by decide +kernel
theorem dX9_raiseOnce_37 : decode cX9_raiseOnce 37 = .ok (.isub, 1) := by decide +kernel
theorem dX9_raiseOnce_38 : decode cX9_raiseOnce 38 = .ok (.istore 4, 2) := by decide +kernel
theorem dX9_raiseOnce_40 : decode cX9_raiseOnce 40 = .ok (.lconst 0, 1) := by decide +kernel
theorem dX9_raiseOnce_41 : decode cX9_raiseOnce 41 = .ok (.lstore 5, 2) := by decide +kernel
theorem dX9_raiseOnce_43 : decode cX9_raiseOnce 43 = .ok (.iload_n 1, 1) := by decide +kernel
theorem dX9_raiseOnce_44 : decode cX9_raiseOnce 44 = .ok (.iconst 1, 1) := by decide +kernel
theorem dX9_raiseOnce_45 : decode cX9_raiseOnce 45 = .ok (.iand, 1) := by decide +kernel
theorem dX9_raiseOnce_46 : decode cX9_raiseOnce 46 = .ok (.ifCond .eq 27, 3) := by decide +kernel
theorem dX9_raiseOnce_49 : decode cX9_raiseOnce 49 = .ok (.iload_n 2, 1) := by decide +kernel
theorem dX9_raiseOnce_50 : decode cX9_raiseOnce 50 = .ok (.aload_n 0, 1) := by decide +kernel
theorem dX9_raiseOnce_51 : decode cX9_raiseOnce 51 = .ok (.getfield 15, 3) := by decide +kernel
theorem dX9_raiseOnce_54 : decode cX9_raiseOnce 54 = .ok (.if_icmp .ge 19, 3) := by decide +kernel
theorem dX9_raiseOnce_57 : decode cX9_raiseOnce 57 = .ok (.lload 5, 2) := by decide +kernel
theorem dX9_raiseOnce_59 : decode cX9_raiseOnce 59 = .ok (.aload_n 0, 1) := by decide +kernel
theorem dX9_raiseOnce_60 : decode cX9_raiseOnce 60 = .ok (.getfield 9, 3) := by decide +kernel
theorem dX9_raiseOnce_63 : decode cX9_raiseOnce 63 = .ok (.iload 4, 2) := by decide +kernel
theorem dX9_raiseOnce_65 : decode cX9_raiseOnce 65 = .ok (.iload_n 3, 1) := by decide +kernel
theorem dX9_raiseOnce_66 : decode cX9_raiseOnce 66 = .ok (.invokestatic 26, 3) := by decide +kernel
theorem dX9_raiseOnce_69 : decode cX9_raiseOnce 69 = .ok (.laload, 1) := by decide +kernel
theorem dX9_raiseOnce_70 : decode cX9_raiseOnce 70 = .ok (.ladd, 1) := by decide +kernel
theorem dX9_raiseOnce_71 : decode cX9_raiseOnce 71 = .ok (.lstore 5, 2) := by decide +kernel
theorem dX9_raiseOnce_73 : decode cX9_raiseOnce 73 = .ok (.iload_n 1, 1) := by decide +kernel
theorem dX9_raiseOnce_74 : decode cX9_raiseOnce 74 = .ok (.iconst 2, 1) := by decide +kernel
theorem dX9_raiseOnce_75 : decode cX9_raiseOnce 75 = .ok (.iand, 1) := by decide +kernel
theorem dX9_raiseOnce_76 : decode cX9_raiseOnce 76 = .ok (.ifCond .eq 26, 3) := by decide +kernel
theorem dX9_raiseOnce_79 : decode cX9_raiseOnce 79 = .ok (.iload 4, 2) := by decide +kernel
theorem dX9_raiseOnce_81 : decode cX9_raiseOnce 81 = .ok (.ifCond .le 21, 3) := by decide +kernel
theorem dX9_raiseOnce_84 : decode cX9_raiseOnce 84 = .ok (.lload 5, 2) := by decide +kernel
theorem dX9_raiseOnce_86 : decode cX9_raiseOnce 86 = .ok (.aload_n 0, 1) := by decide +kernel
theorem dX9_raiseOnce_87 : decode cX9_raiseOnce 87 = .ok (.getfield 9, 3) := by decide +kernel
theorem dX9_raiseOnce_90 : decode cX9_raiseOnce 90 = .ok (.iload 4, 2) := by decide +kernel
theorem dX9_raiseOnce_92 : decode cX9_raiseOnce 92 = .ok (.iconst 1, 1) := by decide +kernel
theorem dX9_raiseOnce_93 : decode cX9_raiseOnce 93 = .ok (.isub, 1) := by decide +kernel
theorem dX9_raiseOnce_94 : decode cX9_raiseOnce 94 = .ok (.iload_n 3, 1) := by decide +kernel
theorem dX9_raiseOnce_95 : decode cX9_raiseOnce 95 = .ok (.invokestatic 26, 3) := by decide +kernel
theorem dX9_raiseOnce_98 : decode cX9_raiseOnce 98 = .ok (.laload, 1) := by decide +kernel
theorem dX9_raiseOnce_99 : decode cX9_raiseOnce 99 = .ok (.ladd, 1) := by decide +kernel
theorem dX9_raiseOnce_100 : decode cX9_raiseOnce 100 = .ok (.lstore 5, 2) := by decide +kernel
theorem dX9_raiseOnce_102 : decode cX9_raiseOnce 102 = .ok (.iload_n 1, 1) := by decide +kernel
theorem dX9_raiseOnce_103 : decode cX9_raiseOnce 103 = .ok (.iconst 4, 1) := by decide +kernel
theorem dX9_raiseOnce_104 : decode cX9_raiseOnce 104 = .ok (.iand, 1) := by decide +kernel
theorem dX9_raiseOnce_105 : decode cX9_raiseOnce 105 = .ok (.ifCond .eq 25, 3) := by decide +kernel
theorem dX9_raiseOnce_108 : decode cX9_raiseOnce 108 = .ok (.iload_n 3, 1) := by decide +kernel
theorem dX9_raiseOnce_109 : decode cX9_raiseOnce 109 = .ok (.ifCond .le 21, 3) := by decide +kernel
theorem dX9_raiseOnce_112 : decode cX9_raiseOnce 112 = .ok (.lload 5, 2) := by decide +kernel
theorem dX9_raiseOnce_114 : decode cX9_raiseOnce 114 = .ok (.aload_n 0, 1) := by decide +kernel
theorem dX9_raiseOnce_115 : decode cX9_raiseOnce 115 = .ok (.getfield 9, 3) := by decide +kernel
theorem dX9_raiseOnce_118 : decode cX9_raiseOnce 118 = .ok (.iload 4, 2) := by decide +kernel
theorem dX9_raiseOnce_120 : decode cX9_raiseOnce 120 = .ok (.iload_n 3, 1) := by decide +kernel
theorem dX9_raiseOnce_121 : decode cX9_raiseOnce 121 = .ok (.iconst 1, 1) := by decide +kernel
theorem dX9_raiseOnce_122 : decode cX9_raiseOnce 122 = .ok (.isub, 1) := by decide +kernel
theorem dX9_raiseOnce_123 : decode cX9_raiseOnce 123 = .ok (.invokestatic 26, 3) := by decide +kernel
theorem dX9_raiseOnce_126 : decode cX9_raiseOnce 126 = .ok (.laload, 1) := by decide +kernel
theorem dX9_raiseOnce_127 : decode cX9_raiseOnce 127 = .ok (.ladd, 1) := by decide +kernel
theorem dX9_raiseOnce_128 : decode cX9_raiseOnce 128 = .ok (.lstore 5, 2) := by decide +kernel
theorem dX9_raiseOnce_130 : decode cX9_raiseOnce 130 = .ok (.aload_n 0, 1) := by decide +kernel
theorem dX9_raiseOnce_131 : decode cX9_raiseOnce 131 = .ok (.getfield 9, 3) := by decide +kernel
theorem dX9_raiseOnce_134 : decode cX9_raiseOnce 134 = .ok (.iload 4, 2) := by decide +kernel
theorem dX9_raiseOnce_136 : decode cX9_raiseOnce 136 = .ok (.iload_n 3, 1) := by decide +kernel
theorem dX9_raiseOnce_137 : decode cX9_raiseOnce 137 = .ok (.invokestatic 26, 3) := by decide +kernel
theorem dX9_raiseOnce_140 : decode cX9_raiseOnce 140 = .ok (.lload 5, 2) := by decide +kernel
theorem dX9_raiseOnce_142 : decode cX9_raiseOnce 142 = .ok (.lastore, 1) := by decide +kernel
theorem dX9_raiseOnce_143 : decode cX9_raiseOnce 143 = .ok (.iinc 3 (-1), 3) := by decide +kernel
theorem dX9_raiseOnce_146 : decode cX9_raiseOnce 146 = .ok (.goto (-115), 3) := by decide +kernel
theorem dX9_raiseOnce_149 : decode cX9_raiseOnce 149 = .ok (.iinc 2 (-1), 3) := by decide +kernel
theorem dX9_raiseOnce_152 : decode cX9_raiseOnce 152 = .ok (.goto (-127), 3) := by decide +kernel
theorem dX9_raiseOnce_155 : decode cX9_raiseOnce 155 = .ok (.return_, 1) := by decide +kernel
theorem dX9_raise_0 : decode cX9_raise 0 = .ok (.iconst 0, 1) := by decide +kernel
theorem dX9_raise_1 : decode cX9_raise 1 = .ok (.istore_n 3, 1) := by decide +kernel
theorem dX9_raise_2 : decode cX9_raise 2 = .ok (.iload_n 3, 1) := by decide +kernel
theorem dX9_raise_3 : decode cX9_raise 3 = .ok (.iload_n 2, 1) := by decide +kernel
theorem dX9_raise_4 : decode cX9_raise 4 = .ok (.if_icmp .ge 14, 3) := by decide +kernel
theorem dX9_raise_7 : decode cX9_raise 7 = .ok (.aload_n 0, 1) := by decide +kernel
theorem dX9_raise_8 : decode cX9_raise 8 = .ok (.iload_n 1, 1) := by decide +kernel
theorem dX9_raise_9 : decode cX9_raise 9 = .ok (.invokevirtual 38, 3) := by decide +kernel
theorem dX9_raise_12 : decode cX9_raise 12 = .ok (.iinc 3 1, 3) := by decide +kernel
theorem dX9_raise_15 : decode cX9_raise 15 = .ok (.goto (-13), 3) := by decide +kernel
theorem dX9_raise_18 : decode cX9_raise 18 = .ok (.return_, 1) := by decide +kernel
theorem dX6_bringLift_0 : decode cX6_bringLift 0 = .ok (.iload_n 2, 1) := by decide +kernel
theorem dX6_bringLift_1 : decode cX6_bringLift 1 = .ok (.bipush 6, 2) := by decide +kernel
theorem dX6_bringLift_3 : decode cX6_bringLift 3 = .ok (.if_icmp .le 5, 3) := by decide +kernel
theorem dX6_bringLift_6 : decode cX6_bringLift 6 = .ok (.iconst 0, 1) := by decide +kernel
theorem dX6_bringLift_7 : decode cX6_bringLift 7 = .ok (.ireturn, 1) := by decide +kernel
theorem dX6_bringLift_8 : decode cX6_bringLift 8 = .ok (.aload_n 0, 1) := by decide +kernel
theorem dX6_bringLift_9 : decode cX6_bringLift 9 = .ok (.getfield 23, 3) := by decide +kernel
theorem dX6_bringLift_12 : decode cX6_bringLift 12 = .ok (.aload_n 0, 1) := by decide +kernel
theorem dX6_bringLift_13 : decode cX6_bringLift 13 = .ok (.getfield 11, 3) := by decide +kernel
theorem dX6_bringLift_16 : decode cX6_bringLift 16 = .ok (.iload_n 1, 1) := by decide +kernel
theorem dX6_bringLift_17 : decode cX6_bringLift 17 = .ok (.aaload, 1) := by decide +kernel
theorem dX6_bringLift_18 : decode cX6_bringLift 18 = .ok (.bipush 7, 2) := by decide +kernel
theorem dX6_bringLift_20 : decode cX6_bringLift 20 = .ok (.invokevirtual 113, 3) := by decide +kernel
theorem dX6_bringLift_23 : decode cX6_bringLift 23 = .ok (.aload_n 0, 1) := by decide +kernel
theorem dX6_bringLift_24 : decode cX6_bringLift 24 = .ok (.getfield 23, 3) := by decide +kernel
theorem dX6_bringLift_27 : decode cX6_bringLift 27 = .ok (.bipush 7, 2) := by decide +kernel
theorem dX6_bringLift_29 : decode cX6_bringLift 29 = .ok (.iload_n 2, 1) := by decide +kernel
theorem dX6_bringLift_30 : decode cX6_bringLift 30 = .ok (.invokevirtual 142, 3) := by decide +kernel
theorem dX6_bringLift_33 : decode cX6_bringLift 33 = .ok (.aload_n 0, 1) := by decide +kernel
theorem dX6_bringLift_34 : decode cX6_bringLift 34 = .ok (.invokevirtual 122, 3) := by decide +kernel
theorem dX6_bringLift_37 : decode cX6_bringLift 37 = .ok (.ireturn, 1) := by decide +kernel
theorem dX6_bringNegative_0 : decode cX6_bringNegative 0 = .ok (.aload_n 0, 1) := by decide +kernel
theorem dX6_bringNegative_1 : decode cX6_bringNegative 1 = .ok (.getfield 23, 3) := by decide +kernel
theorem dX6_bringNegative_4 : decode cX6_bringNegative 4 = .ok (.aload_n 0, 1) := by decide +kernel
theorem dX6_bringNegative_5 : decode cX6_bringNegative 5 = .ok (.getfield 11, 3) := by decide +kernel
theorem dX6_bringNegative_8 : decode cX6_bringNegative 8 = .ok (.iload_n 1, 1) := by decide +kernel
theorem dX6_bringNegative_9 : decode cX6_bringNegative 9 = .ok (.aaload, 1) := by decide +kernel
theorem dX6_bringNegative_10 : decode cX6_bringNegative 10 = .ok (.bipush 7, 2) := by decide +kernel
theorem dX6_bringNegative_12 : decode cX6_bringNegative 12 = .ok (.invokevirtual 113, 3) := by decide +kernel
theorem dX6_bringNegative_15 : decode cX6_bringNegative 15 = .ok (.iconst 0, 1) := by decide +kernel
theorem dX6_bringNegative_16 : decode cX6_bringNegative 16 = .ok (.istore_n 2, 1) := by decide +kernel
theorem dX6_bringNegative_17 : decode cX6_bringNegative 17 = .ok (.iload_n 2, 1) := by decide +kernel
theorem dX6_bringNegative_18 : decode cX6_bringNegative 18 = .ok (.aload_n 0, 1) := by decide +kernel
theorem dX6_bringNegative_19 : decode cX6_bringNegative 19 = .ok (.getfield 23, 3) := by decide +kernel
theorem dX6_bringNegative_22 : decode cX6_bringNegative 22 = .ok (.getfield 117, 3) := by decide +kernel
theorem dX6_bringNegative_25 : decode cX6_bringNegative 25 = .ok (.invokestatic 46, 3) := by decide +kernel
theorem dX6_bringNegative_28 : decode cX6_bringNegative 28 = .ok (.if_icmp .ge 28, 3) := by decide +kernel
theorem dX6_bringNegative_31 : decode cX6_bringNegative 31 = .ok (.aload_n 0, 1) := by decide +kernel
theorem dX6_bringNegative_32 : decode cX6_bringNegative 32 = .ok (.getfield 23, 3) := by decide +kernel
theorem dX6_bringNegative_35 : decode cX6_bringNegative 35 = .ok (.getfield 118, 3) := by decide +kernel
theorem dX6_bringNegative_38 : decode cX6_bringNegative 38 = .ok (.iload_n 2, 1) := by decide +kernel
theorem dX6_bringNegative_39 : decode cX6_bringNegative 39 = .ok (.aload_n 0, 1) := by decide +kernel
theorem dX6_bringNegative_40 : decode cX6_bringNegative 40 = .ok (.getfield 23, 3) := by decide +kernel
theorem dX6_bringNegative_43 : decode cX6_bringNegative 43 = .ok (.getfield 118, 3) := by decide +kernel
theorem dX6_bringNegative_46 : decode cX6_bringNegative 46 = .ok (.iload_n 2, 1) := by decide +kernel
theorem dX6_bringNegative_47 : decode cX6_bringNegative 47 = .ok (.laload, 1) := by decide +kernel
theorem dX6_bringNegative_48 : decode cX6_bringNegative 48 = .ok (.lneg, 1) := by decide +kernel
theorem dX6_bringNegative_49 : decode cX6_bringNegative 49 = .ok (.lastore, 1) := by decide +kernel
theorem dX6_bringNegative_50 : decode cX6_bringNegative 50 = .ok (.iinc 2 1, 3) := by decide +kernel
theorem dX6_bringNegative_53 : decode cX6_bringNegative 53 = .ok (.goto (-36), 3) := by decide +kernel
theorem dX6_bringNegative_56 : decode cX6_bringNegative 56 = .ok (.aload_n 0, 1) := by decide +kernel
theorem dX6_bringNegative_57 : decode cX6_bringNegative 57 = .ok (.invokevirtual 122, 3) := by decide +kernel
theorem dX6_bringNegative_60 : decode cX6_bringNegative 60 = .ok (.ireturn, 1) := by decide +kernel
theorem dX6_bringOn_0 : decode cX6_bringOn 0 = .ok (.aload_n 0, 1) := by decide +kernel
theorem dX6_bringOn_1 : decode cX6_bringOn 1 = .ok (.getfield 23, 3) := by decide +kernel
theorem dX6_bringOn_4 : decode cX6_bringOn 4 = .ok (.aload_n 0, 1) := by decide +kernel
theorem dX6_bringOn_5 : decode cX6_bringOn 5 = .ok (.getfield 11, 3) := by decide +kernel
theorem dX6_bringOn_8 : decode cX6_bringOn 8 = .ok (.iload_n 1, 1) := by decide +kernel
theorem dX6_bringOn_9 : decode cX6_bringOn 9 = .ok (.aaload, 1) := by decide +kernel
theorem dX6_bringOn_10 : decode cX6_bringOn 10 = .ok (.iload_n 2, 1) := by decide +kernel
theorem dX6_bringOn_11 : decode cX6_bringOn 11 = .ok (.invokevirtual 113, 3) := by decide +kernel
theorem dX6_bringOn_14 : decode cX6_bringOn 14 = .ok (.aload_n 0, 1) := by decide +kernel
theorem dX6_bringOn_15 : decode cX6_bringOn 15 = .ok (.invokevirtual 122, 3) := by decide +kernel
theorem dX6_bringOn_18 : decode cX6_bringOn 18 = .ok (.ireturn, 1) := by decide +kernel
theorem dX7_add_0 : decode cX7_add 0 = .ok (.aload_n 0, 1) := by decide +kernel
theorem dX7_add_1 : decode cX7_add 1 = .ok (.getfield 9, 3) := by decide +kernel
theorem dX7_add_4 : decode cX7_add 4 = .ok (.aload_n 0, 1) := by decide +kernel
theorem dX7_add_5 : decode cX7_add 5 = .ok (.getfield 18, 3) := by decide +kernel
theorem dX7_add_8 : decode cX7_add 8 = .ok (.if_icmp .ne 8, 3) := by decide +kernel
theorem dX7_add_11 : decode cX7_add 11 = .ok (.aload_n 0, 1) := by decide +kernel
theorem dX7_add_12 : decode cX7_add 12 = .ok (.iload_n 1, 1) := by decide +kernel
theorem dX7_add_13 : decode cX7_add 13 = .ok (.putfield 15, 3) := by decide +kernel
theorem dX7_add_16 : decode cX7_add 16 = .ok (.aload_n 0, 1) := by decide +kernel
theorem dX7_add_17 : decode cX7_add 17 = .ok (.dup, 1) := by decide +kernel
theorem dX7_add_18 : decode cX7_add 18 = .ok (.getfield 9, 3) := by decide +kernel
theorem dX7_add_21 : decode cX7_add 21 = .ok (.iconst 1, 1) := by decide +kernel
theorem dX7_add_22 : decode cX7_add 22 = .ok (.iadd, 1) := by decide +kernel
theorem dX7_add_23 : decode cX7_add 23 = .ok (.putfield 9, 3) := by decide +kernel
theorem dX7_add_26 : decode cX7_add 26 = .ok (.return_, 1) := by decide +kernel
theorem dX7_spellNumber_0 : decode cX7_spellNumber 0 = .ok (.iconst 1, 1) := by decide +kernel
theorem dX7_spellNumber_1 : decode cX7_spellNumber 1 = .ok (.istore_n 2, 1) := by decide +kernel
theorem dX7_spellNumber_2 : decode cX7_spellNumber 2 = .ok (.iconst 0, 1) := by decide +kernel
theorem dX7_spellNumber_3 : decode cX7_spellNumber 3 = .ok (.istore_n 3, 1) := by decide +kernel
theorem dX7_spellNumber_4 : decode cX7_spellNumber 4 = .ok (.iload_n 3, 1) := by decide +kernel
theorem dX7_spellNumber_5 : decode cX7_spellNumber 5 = .ok (.bipush 8, 2) := by decide +kernel
theorem dX7_spellNumber_7 : decode cX7_spellNumber 7 = .ok (.if_icmp .ge 22, 3) := by decide +kernel
theorem dX7_spellNumber_10 : decode cX7_spellNumber 10 = .ok (.iload_n 1, 1) := by decide +kernel
theorem dX7_spellNumber_11 : decode cX7_spellNumber 11 = .ok (.iload_n 2, 1) := by decide +kernel
theorem dX7_spellNumber_12 : decode cX7_spellNumber 12 = .ok (.idiv, 1) := by decide +kernel
theorem dX7_spellNumber_13 : decode cX7_spellNumber 13 = .ok (.bipush 10, 2) := by decide +kernel
theorem dX7_spellNumber_15 : decode cX7_spellNumber 15 = .ok (.if_icmp .lt 14, 3) := by decide +kernel
theorem dX7_spellNumber_18 : decode cX7_spellNumber 18 = .ok (.iload_n 2, 1) := by decide +kernel
theorem dX7_spellNumber_19 : decode cX7_spellNumber 19 = .ok (.bipush 10, 2) := by decide +kernel
theorem dX7_spellNumber_21 : decode cX7_spellNumber 21 = .ok (.imul, 1) := by decide +kernel
theorem dX7_spellNumber_22 : decode cX7_spellNumber 22 = .ok (.istore_n 2, 1) := by decide +kernel
theorem dX7_spellNumber_23 : decode cX7_spellNumber 23 = .ok (.iinc 3 1, 3) := by decide +kernel
theorem dX7_spellNumber_26 : decode cX7_spellNumber 26 = .ok (.goto (-22), 3) := by decide +kernel
theorem dX7_spellNumber_29 : decode cX7_spellNumber 29 = .ok (.iload_n 2, 1) := by decide +kernel
theorem dX7_spellNumber_30 : decode cX7_spellNumber 30 = .ok (.ifCond .le 24, 3) := by decide +kernel
theorem dX7_spellNumber_33 : decode cX7_spellNumber 33 = .ok (.aload_n 0, 1) := by decide +kernel
theorem dX7_spellNumber_34 : decode cX7_spellNumber 34 = .ok (.bipush 48, 2) := by decide +kernel
theorem dX7_spellNumber_36 : decode cX7_spellNumber 36 = .ok (.iload_n 1, 1) := by decide +kernel
theorem dX7_spellNumber_37 : decode cX7_spellNumber 37 = .ok (.iload_n 2, 1) := by decide +kernel
theorem dX7_spellNumber_38 : decode cX7_spellNumber 38 = .ok (.idiv, 1) := by decide +kernel
theorem dX7_spellNumber_39 : decode cX7_spellNumber 39 = .ok (.bipush 10, 2) := by decide +kernel
theorem dX7_spellNumber_41 : decode cX7_spellNumber 41 = .ok (.irem, 1) := by decide +kernel
theorem dX7_spellNumber_42 : decode cX7_spellNumber 42 = .ok (.iadd, 1) := by decide +kernel
theorem dX7_spellNumber_43 : decode cX7_spellNumber 43 = .ok (.invokevirtual 30, 3) := by decide +kernel
theorem dX7_spellNumber_46 : decode cX7_spellNumber 46 = .ok (.iload_n 2, 1) := by decide +kernel
theorem dX7_spellNumber_47 : decode cX7_spellNumber 47 = .ok (.bipush 10, 2) := by decide +kernel
theorem dX7_spellNumber_49 : decode cX7_spellNumber 49 = .ok (.idiv, 1) := by decide +kernel
theorem dX7_spellNumber_50 : decode cX7_spellNumber 50 = .ok (.istore_n 2, 1) := by decide +kernel
theorem dX7_spellNumber_51 : decode cX7_spellNumber 51 = .ok (.goto (-22), 3) := by decide +kernel
theorem dX7_spellNumber_54 : decode cX7_spellNumber 54 = .ok (.return_, 1) := by decide +kernel
theorem dX7_spellPower_0 : decode cX7_spellPower 0 = .ok (.iload_n 2, 1) := by decide +kernel
theorem dX7_spellPower_1 : decode cX7_spellPower 1 = .ok (.ifCond .le 8, 3) := by decide +kernel
theorem dX7_spellPower_4 : decode cX7_spellPower 4 = .ok (.aload_n 0, 1) := by decide +kernel
theorem dX7_spellPower_5 : decode cX7_spellPower 5 = .ok (.iload_n 1, 1) := by decide +kernel
theorem dX7_spellPower_6 : decode cX7_spellPower 6 = .ok (.invokevirtual 30, 3) := by decide +kernel
theorem dX7_spellPower_9 : decode cX7_spellPower 9 = .ok (.iload_n 2, 1) := by decide +kernel
theorem dX7_spellPower_10 : decode cX7_spellPower 10 = .ok (.iconst 1, 1) := by decide +kernel
theorem dX7_spellPower_11 : decode cX7_spellPower 11 = .ok (.if_icmp .le 17, 3) := by decide +kernel
theorem dX7_spellPower_14 : decode cX7_spellPower 14 = .ok (.aload_n 0, 1) := by decide +kernel
theorem dX7_spellPower_15 : decode cX7_spellPower 15 = .ok (.bipush 94, 2) := by decide +kernel
theorem dX7_spellPower_17 : decode cX7_spellPower 17 = .ok (.invokevirtual 30, 3) := by decide +kernel
theorem dX7_spellPower_20 : decode cX7_spellPower 20 = .ok (.aload_n 0, 1) := by decide +kernel
theorem dX7_spellPower_21 : decode cX7_spellPower 21 = .ok (.bipush 48, 2) := by decide +kernel
theorem dX7_spellPower_23 : decode cX7_spellPower 23 = .ok (.iload_n 2, 1) := by decide +kernel
theorem dX7_spellPower_24 : decode cX7_spellPower 24 = .ok (.iadd, 1) := by decide +kernel
theorem dX7_spellPower_25 : decode cX7_spellPower 25 = .ok (.invokevirtual 30, 3) := by decide +kernel
theorem dX7_spellPower_28 : decode cX7_spellPower 28 = .ok (.return_, 1) := by decide +kernel
theorem dX7_spellTerm_0 : decode cX7_spellTerm 0 = .ok (.aload_n 1, 1) := by decide +kernel
theorem dX7_spellTerm_1 : decode cX7_spellTerm 1 = .ok (.iload_n 2, 1) := by decide +kernel
theorem dX7_spellTerm_2 : decode cX7_spellTerm 2 = .ok (.iload_n 3, 1) := by decide +kernel
theorem dX7_spellTerm_3 : decode cX7_spellTerm 3 = .ok (.iload 4, 2) := by decide +kernel
theorem dX7_spellTerm_5 : decode cX7_spellTerm 5 = .ok (.invokevirtual 34, 3) := by decide +kernel
theorem dX7_spellTerm_8 : decode cX7_spellTerm 8 = .ok (.istore 5, 2) := by decide +kernel
theorem dX7_spellTerm_10 : decode cX7_spellTerm 10 = .ok (.iload 5, 2) := by decide +kernel
theorem dX7_spellTerm_12 : decode cX7_spellTerm 12 = .ok (.ifCond .ne 4, 3) := by decide +kernel
theorem dX7_spellTerm_15 : decode cX7_spellTerm 15 = .ok (.return_, 1) := by decide +kernel
theorem dX7_spellTerm_16 : decode cX7_spellTerm 16 = .ok (.iload 5, 2) := by decide +kernel
theorem dX7_spellTerm_18 : decode cX7_spellTerm 18 = .ok (.ifCond .ge 12, 3) := by decide +kernel
theorem dX7_spellTerm_21 : decode cX7_spellTerm 21 = .ok (.aload_n 0, 1) := by decide +kernel
theorem dX7_spellTerm_22 : decode cX7_spellTerm 22 = .ok (.bipush 45, 2) := by decide +kernel
theorem dX7_spellTerm_24 : decode cX7_spellTerm 24 = .ok (.invokevirtual 30, 3) := by decide +kernel
theorem dX7_spellTerm_27 : decode cX7_spellTerm 27 = .ok (.goto 16, 3) := by decide +kernel
theorem dX7_spellTerm_30 : decode cX7_spellTerm 30 = .ok (.aload_n 0, 1) := by decide +kernel
theorem dX7_spellTerm_31 : decode cX7_spellTerm 31 = .ok (.getfield 9, 3) := by decide +kernel
theorem dX7_spellTerm_34 : decode cX7_spellTerm 34 = .ok (.ifCond .le 9, 3) := by decide +kernel
theorem dX7_spellTerm_37 : decode cX7_spellTerm 37 = .ok (.aload_n 0, 1) := by decide +kernel
theorem dX7_spellTerm_38 : decode cX7_spellTerm 38 = .ok (.bipush 43, 2) := by decide +kernel
theorem dX7_spellTerm_40 : decode cX7_spellTerm 40 = .ok (.invokevirtual 30, 3) := by decide +kernel
theorem dX7_spellTerm_43 : decode cX7_spellTerm 43 = .ok (.iload 5, 2) := by decide +kernel
theorem dX7_spellTerm_45 : decode cX7_spellTerm 45 = .ok (.invokestatic 38, 3) := by decide +kernel
theorem dX7_spellTerm_48 : decode cX7_spellTerm 48 = .ok (.istore 6, 2) := by decide +kernel
theorem dX7_spellTerm_50 : decode cX7_spellTerm 50 = .ok (.iload 6, 2) := by decide +kernel
theorem dX7_spellTerm_52 : decode cX7_spellTerm 52 = .ok (.iconst 1, 1) := by decide +kernel
theorem dX7_spellTerm_53 : decode cX7_spellTerm 53 = .ok (.if_icmp .ne 10, 3) := by decide +kernel
theorem dX7_spellTerm_56 : decode cX7_spellTerm 56 = .ok (.aload_n 1, 1) := by decide +kernel
theorem dX7_spellTerm_57 : decode cX7_spellTerm 57 = .ok (.getfield 21, 3) := by decide +kernel
theorem dX7_spellTerm_60 : decode cX7_spellTerm 60 = .ok (.ifCond .ne 9, 3) := by decide +kernel
theorem dX7_spellTerm_63 : decode cX7_spellTerm 63 = .ok (.aload_n 0, 1) := by decide +kernel
theorem dX7_spellTerm_64 : decode cX7_spellTerm 64 = .ok (.iload 6, 2) := by decide +kernel
theorem dX7_spellTerm_66 : decode cX7_spellTerm 66 = .ok (.invokevirtual 44, 3) := by decide +kernel
theorem dX7_spellTerm_69 : decode cX7_spellTerm 69 = .ok (.aload_n 0, 1) := by decide +kernel
theorem dX7_spellTerm_70 : decode cX7_spellTerm 70 = .ok (.bipush 97, 2) := by decide +kernel
theorem dX7_spellTerm_72 : decode cX7_spellTerm 72 = .ok (.iload_n 2, 1) := by decide +kernel
theorem dX7_spellTerm_73 : decode cX7_spellTerm 73 = .ok (.invokevirtual 47, 3) := by decide +kernel
theorem dX7_spellTerm_76 : decode cX7_spellTerm 76 = .ok (.aload_n 0, 1) := by decide +kernel
theorem dX7_spellTerm_77 : decode cX7_spellTerm 77 = .ok (.bipush 98, 2) := by decide +kernel
theorem dX7_spellTerm_79 : decode cX7_spellTerm 79 = .ok (.iload_n 3, 1) := by decide +kernel
theorem dX7_spellTerm_80 : decode cX7_spellTerm 80 = .ok (.invokevirtual 47, 3) := by decide +kernel
theorem dX7_spellTerm_83 : decode cX7_spellTerm 83 = .ok (.aload_n 0, 1) := by decide +kernel
theorem dX7_spellTerm_84 : decode cX7_spellTerm 84 = .ok (.bipush 99, 2) := by decide +kernel
theorem dX7_spellTerm_86 : decode cX7_spellTerm 86 = .ok (.iload 4, 2) := by decide +kernel
theorem dX7_spellTerm_88 : decode cX7_spellTerm 88 = .ok (.invokevirtual 47, 3) := by decide +kernel
theorem dX7_spellTerm_91 : decode cX7_spellTerm 91 = .ok (.return_, 1) := by decide +kernel
