theorem dX11_isWord_0 : decode cX11_isWord 0 = .ok (.iload 6, 2) := by decide +kernel
theorem dX11_isWord_2 : decode cX11_isWord 2 = .ok (.ifCond .ne 16, 3) := by decide +kernel
theorem dX11_isWord_5 : decode cX11_isWord 5 = .ok (.iload 5, 2) := by decide +kernel
theorem dX11_isWord_7 : decode cX11_isWord 7 = .ok (.ifCond .ne 7, 3) := by decide +kernel
theorem dX11_isWord_10 : decode cX11_isWord 10 = .ok (.iconst 3, 1) := by decide +kernel
theorem dX11_isWord_11 : decode cX11_isWord 11 = .ok (.goto 8, 3) := by decide +kernel
theorem dX11_isWord_14 : decode cX11_isWord 14 = .ok (.iconst 4, 1) := by decide +kernel
theorem dX11_isWord_15 : decode cX11_isWord 15 = .ok (.goto 4, 3) := by decide +kernel
theorem dX11_isWord_18 : decode cX11_isWord 18 = .ok (.iconst 5, 1) := by decide +kernel
theorem dX11_isWord_19 : decode cX11_isWord 19 = .ok (.istore 7, 2) := by decide +kernel
theorem dX11_isWord_21 : decode cX11_isWord 21 = .ok (.aload_n 0, 1) := by decide +kernel
theorem dX11_isWord_22 : decode cX11_isWord 22 = .ok (.getfield 172, 3) := by decide +kernel
theorem dX11_isWord_25 : decode cX11_isWord 25 = .ok (.iload_n 1, 1) := by decide +kernel
theorem dX11_isWord_26 : decode cX11_isWord 26 = .ok (.isub, 1) := by decide +kernel
theorem dX11_isWord_27 : decode cX11_isWord 27 = .ok (.iload 7, 2) := by decide +kernel
theorem dX11_isWord_29 : decode cX11_isWord 29 = .ok (.if_icmp .ne 80, 3) := by decide +kernel
theorem dX11_isWord_32 : decode cX11_isWord 32 = .ok (.aload_n 0, 1) := by decide +kernel
theorem dX11_isWord_33 : decode cX11_isWord 33 = .ok (.getfield 49, 3) := by decide +kernel
theorem dX11_isWord_36 : decode cX11_isWord 36 = .ok (.iload_n 1, 1) := by decide +kernel
theorem dX11_isWord_37 : decode cX11_isWord 37 = .ok (.iaload, 1) := by decide +kernel
theorem dX11_isWord_38 : decode cX11_isWord 38 = .ok (.iload_n 2, 1) := by decide +kernel
theorem dX11_isWord_39 : decode cX11_isWord 39 = .ok (.if_icmp .ne 70, 3) := by decide +kernel
theorem dX11_isWord_42 : decode cX11_isWord 42 = .ok (.aload_n 0, 1) := by decide +kernel
theorem dX11_isWord_43 : decode cX11_isWord 43 = .ok (.getfield 49, 3) := by decide +kernel
theorem dX11_isWord_46 : decode cX11_isWord 46 = .ok (.iload_n 1, 1) := by decide +kernel
theorem dX11_isWord_47 : decode cX11_isWord 47 = .ok (.iconst 1, 1) := by decide +kernel
theorem dX11_isWord_48 : decode cX11_isWord 48 = .ok (.iadd, 1) := by decide +kernel
theorem dX11_isWord_49 : decode cX11_isWord 49 = .ok (.iaload, 1) := by decide +kernel
theorem dX11_isWord_50 : decode cX11_isWord 50 = .ok (.iload_n 3, 1) := by decide +kernel
theorem dX11_isWord_51 : decode cX11_isWord 51 = .ok (.if_icmp .ne 58, 3) := by decide +kernel
theorem dX11_isWord_54 : decode cX11_isWord 54 = .ok (.aload_n 0, 1) := by decide +kernel
theorem dX11_isWord_55 : decode cX11_isWord 55 = .ok (.getfield 49, 3) := by decide +kernel
theorem dX11_isWord_58 : decode cX11_isWord 58 = .ok (.iload_n 1, 1) := by decide +kernel
theorem dX11_isWord_59 : decode cX11_isWord 59 = .ok (.iconst 2, 1) := by decide +kernel
theorem dX11_isWord_60 : decode cX11_isWord 60 = .ok (.iadd, 1) := by decide +kernel
theorem dX11_isWord_61 : decode cX11_isWord 61 = .ok (.iaload, 1) := by decide +kernel
theorem dX11_isWord_62 : decode cX11_isWord 62 = .ok (.iload 4, 2) := by decide +kernel
theorem dX11_isWord_64 : decode cX11_isWord 64 = .ok (.if_icmp .ne 45, 3) := by decide +kernel
theorem dX11_isWord_67 : decode cX11_isWord 67 = .ok (.iload 7, 2) := by decide +kernel
theorem dX11_isWord_69 : decode cX11_isWord 69 = .ok (.iconst 4, 1) := by decide +kernel
theorem dX11_isWord_70 : decode cX11_isWord 70 = .ok (.if_icmp .lt 16, 3) := by decide +kernel
theorem dX11_isWord_73 : decode cX11_isWord 73 = .ok (.aload_n 0, 1) := by decide +kernel
theorem dX11_isWord_74 : decode cX11_isWord 74 = .ok (.getfield 49, 3) := by decide +kernel
theorem dX11_isWord_77 : decode cX11_isWord 77 = .ok (.iload_n 1, 1) := by decide +kernel
theorem dX11_isWord_78 : decode cX11_isWord 78 = .ok (.iconst 3, 1) := by decide +kernel
theorem dX11_isWord_79 : decode cX11_isWord 79 = .ok (.iadd, 1) := by decide +kernel
theorem dX11_isWord_80 : decode cX11_isWord 80 = .ok (.iaload, 1) := by decide +kernel
theorem dX11_isWord_81 : decode cX11_isWord 81 = .ok (.iload 5, 2) := by decide +kernel
theorem dX11_isWord_83 : decode cX11_isWord 83 = .ok (.if_icmp .ne 26, 3) := by decide +kernel
theorem dX11_isWord_86 : decode cX11_isWord 86 = .ok (.iload 7, 2) := by decide +kernel
theorem dX11_isWord_88 : decode cX11_isWord 88 = .ok (.iconst 5, 1) := by decide +kernel
theorem dX11_isWord_89 : decode cX11_isWord 89 = .ok (.if_icmp .lt 16, 3) := by decide +kernel
theorem dX11_isWord_92 : decode cX11_isWord 92 = .ok (.aload_n 0, 1) := by decide +kernel
theorem dX11_isWord_93 : decode cX11_isWord 93 = .ok (.getfield 49, 3) := by decide +kernel
theorem dX11_isWord_96 : decode cX11_isWord 96 = .ok (.iload_n 1, 1) := by decide +kernel
theorem dX11_isWord_97 : decode cX11_isWord 97 = .ok (.iconst 4, 1) := by decide +kernel
theorem dX11_isWord_98 : decode cX11_isWord 98 = .ok (.iadd, 1) := by decide +kernel
theorem dX11_isWord_99 : decode cX11_isWord 99 = .ok (.iaload, 1) := by decide +kernel
theorem dX11_isWord_100 : decode cX11_isWord 100 = .ok (.iload 6, 2) := by decide +kernel
theorem dX11_isWord_102 : decode cX11_isWord 102 = .ok (.if_icmp .ne 7, 3) := by decide +kernel
theorem dX11_isWord_105 : decode cX11_isWord 105 = .ok (.iconst 1, 1) := by decide +kernel
theorem dX11_isWord_106 : decode cX11_isWord 106 = .ok (.goto 4, 3) := by decide +kernel
theorem dX11_isWord_109 : decode cX11_isWord 109 = .ok (.iconst 0, 1) := by decide +kernel
theorem dX11_isWord_110 : decode cX11_isWord 110 = .ok (.ireturn, 1) := by decide +kernel
theorem dX11_readsWord_0 : decode cX11_readsWord 0 = .ok (.aload_n 0, 1) := by decide +kernel
theorem dX11_readsWord_1 : decode cX11_readsWord 1 = .ok (.getfield 172, 3) := by decide +kernel
theorem dX11_readsWord_4 : decode cX11_readsWord 4 = .ok (.istore_n 1, 1) := by decide +kernel
theorem dX11_readsWord_5 : decode cX11_readsWord 5 = .ok (.aload_n 0, 1) := by decide +kernel
theorem dX11_readsWord_6 : decode cX11_readsWord 6 = .ok (.invokevirtual 175, 3) := by decide +kernel
theorem dX11_readsWord_9 : decode cX11_readsWord 9 = .ok (.bipush 97, 2) := by decide +kernel
theorem dX11_readsWord_11 : decode cX11_readsWord 11 = .ok (.bipush 122, 2) := by decide +kernel
theorem dX11_readsWord_13 : decode cX11_readsWord 13 = .ok (.invokestatic 98, 3) := by decide +kernel
theorem dX11_readsWord_16 : decode cX11_readsWord 16 = .ok (.ifCond .eq 16, 3) := by decide +kernel
theorem dX11_readsWord_19 : decode cX11_readsWord 19 = .ok (.aload_n 0, 1) := by decide +kernel
theorem dX11_readsWord_20 : decode cX11_readsWord 20 = .ok (.dup, 1) := by decide +kernel
theorem dX11_readsWord_21 : decode cX11_readsWord 21 = .ok (.getfield 172, 3) := by decide +kernel
theorem dX11_readsWord_24 : decode cX11_readsWord 24 = .ok (.iconst 1, 1) := by decide +kernel
theorem dX11_readsWord_25 : decode cX11_readsWord 25 = .ok (.iadd, 1) := by decide +kernel
theorem dX11_readsWord_26 : decode cX11_readsWord 26 = .ok (.putfield 172, 3) := by decide +kernel
theorem dX11_readsWord_29 : decode cX11_readsWord 29 = .ok (.goto (-24), 3) := by decide +kernel
theorem dX11_readsWord_32 : decode cX11_readsWord 32 = .ok (.aload_n 0, 1) := by decide +kernel
theorem dX11_readsWord_33 : decode cX11_readsWord 33 = .ok (.iload_n 1, 1) := by decide +kernel
theorem dX11_readsWord_34 : decode cX11_readsWord 34 = .ok (.bipush 115, 2) := by decide +kernel
theorem dX11_readsWord_36 : decode cX11_readsWord 36 = .ok (.bipush 117, 2) := by decide +kernel
theorem dX11_readsWord_38 : decode cX11_readsWord 38 = .ok (.bipush 109, 2) := by decide +kernel
theorem dX11_readsWord_40 : decode cX11_readsWord 40 = .ok (.iconst 0, 1) := by decide +kernel
theorem dX11_readsWord_41 : decode cX11_readsWord 41 = .ok (.iconst 0, 1) := by decide +kernel
theorem dX11_readsWord_42 : decode cX11_readsWord 42 = .ok (.invokevirtual 193, 3) := by decide +kernel
theorem dX11_readsWord_45 : decode cX11_readsWord 45 = .ok (.ifCond .eq 5, 3) := by decide +kernel
theorem dX11_readsWord_48 : decode cX11_readsWord 48 = .ok (.iconst 0, 1) := by decide +kernel
theorem dX11_readsWord_49 : decode cX11_readsWord 49 = .ok (.ireturn, 1) := by decide +kernel
theorem dX11_readsWord_50 : decode cX11_readsWord 50 = .ok (.aload_n 0, 1) := by decide +kernel
theorem dX11_readsWord_51 : decode cX11_readsWord 51 = .ok (.iload_n 1, 1) := by decide +kernel
theorem dX11_readsWord_52 : decode cX11_readsWord 52 = .ok (.bipush 116, 2) := by decide +kernel
theorem dX11_readsWord_54 : decode cX11_readsWord 54 = .ok (.bipush 105, 2) := by decide +kernel
theorem dX11_readsWord_56 : decode cX11_readsWord 56 = .ok (.bipush 109, 2) := by decide +kernel
theorem dX11_readsWord_58 : decode cX11_readsWord 58 = .ok (.bipush 101, 2) := by decide +kernel
theorem dX11_readsWord_60 : decode cX11_readsWord 60 = .ok (.bipush 115, 2) := by decide +kernel
theorem dX11_readsWord_62 : decode cX11_readsWord 62 = .ok (.invokevirtual 193, 3) := by decide +kernel
theorem dX11_readsWord_65 : decode cX11_readsWord 65 = .ok (.ifCond .eq 5, 3) := by decide +kernel
theorem dX11_readsWord_68 : decode cX11_readsWord 68 = .ok (.iconst 1, 1) := by decide +kernel
theorem dX11_readsWord_69 : decode cX11_readsWord 69 = .ok (.ireturn, 1) := by decide +kernel
theorem dX11_readsWord_70 : decode cX11_readsWord 70 = .ok (.aload_n 0, 1) := by decide +kernel
theorem dX11_readsWord_71 : decode cX11_readsWord 71 = .ok (.iload_n 1, 1) := by decide +kernel
theorem dX11_readsWord_72 : decode cX11_readsWord 72 = .ok (.bipush 108, 2) := by decide +kernel
theorem dX11_readsWord_74 : decode cX11_readsWord 74 = .ok (.bipush 105, 2) := by decide +kernel
theorem dX11_readsWord_76 : decode cX11_readsWord 76 = .ok (.bipush 102, 2) := by decide +kernel
theorem dX11_readsWord_78 : decode cX11_readsWord 78 = .ok (.bipush 116, 2) := by decide +kernel
theorem dX11_readsWord_80 : decode cX11_readsWord 80 = .ok (.iconst 0, 1) := by decide +kernel
theorem dX11_readsWord_81 : decode cX11_readsWord 81 = .ok (.invokevirtual 193, 3) := by decide +kernel
theorem dX11_readsWord_84 : decode cX11_readsWord 84 = .ok (.ifCond .eq 5, 3) := by decide +kernel
theorem dX11_readsWord_87 : decode cX11_readsWord 87 = .ok (.iconst 2, 1) := by decide +kernel
theorem dX11_readsWord_88 : decode cX11_readsWord 88 = .ok (.ireturn, 1) := by decide +kernel
theorem dX11_readsWord_89 : decode cX11_readsWord 89 = .ok (.aload_n 0, 1) := by decide +kernel
theorem dX11_readsWord_90 : decode cX11_readsWord 90 = .ok (.iload_n 1, 1) := by decide +kernel
theorem dX11_readsWord_91 : decode cX11_readsWord 91 = .ok (.bipush 109, 2) := by decide +kernel
theorem dX11_readsWord_93 : decode cX11_readsWord 93 = .ok (.bipush 105, 2) := by decide +kernel
theorem dX11_readsWord_95 : decode cX11_readsWord 95 = .ok (.bipush 110, 2) := by decide +kernel
theorem dX11_readsWord_97 : decode cX11_readsWord 97 = .ok (.bipush 117, 2) := by decide +kernel
theorem dX11_readsWord_99 : decode cX11_readsWord 99 = .ok (.bipush 115, 2) := by decide +kernel
theorem dX11_readsWord_101 : decode cX11_readsWord 101 = .ok (.invokevirtual 193, 3) := by decide +kernel
theorem dX11_readsWord_104 : decode cX11_readsWord 104 = .ok (.ifCond .eq 5, 3) := by decide +kernel
theorem dX11_readsWord_107 : decode cX11_readsWord 107 = .ok (.iconst 3, 1) := by decide +kernel
theorem dX11_readsWord_108 : decode cX11_readsWord 108 = .ok (.ireturn, 1) := by decide +kernel
theorem dX11_readsWord_109 : decode cX11_readsWord 109 = .ok (.aload_n 0, 1) := by decide +kernel
theorem dX11_readsWord_110 : decode cX11_readsWord 110 = .ok (.iload_n 1, 1) := by decide +kernel
theorem dX11_readsWord_111 : decode cX11_readsWord 111 = .ok (.bipush 115, 2) := by decide +kernel
theorem dX11_readsWord_113 : decode cX11_readsWord 113 = .ok (.bipush 105, 2) := by decide +kernel
theorem dX11_readsWord_115 : decode cX11_readsWord 115 = .ok (.bipush 100, 2) := by decide +kernel
theorem dX11_readsWord_117 : decode cX11_readsWord 117 = .ok (.bipush 101, 2) := by decide +kernel
theorem dX11_readsWord_119 : decode cX11_readsWord 119 = .ok (.iconst 0, 1) := by decide +kernel
theorem dX11_readsWord_120 : decode cX11_readsWord 120 = .ok (.invokevirtual 193, 3) := by decide +kernel
theorem dX11_readsWord_123 : decode cX11_readsWord 123 = .ok (.ifCond .eq 5, 3) := by decide +kernel
theorem dX11_readsWord_126 : decode cX11_readsWord 126 = .ok (.iconst 4, 1) := by decide +kernel
theorem dX11_readsWord_127 : decode cX11_readsWord 127 = .ok (.ireturn, 1) := by decide +kernel
theorem dX11_readsWord_128 : decode cX11_readsWord 128 = .ok (.aload_n 0, 1) := by decide +kernel
theorem dX11_readsWord_129 : decode cX11_readsWord 129 = .ok (.iload_n 1, 1) := by decide +kernel
theorem dX11_readsWord_130 : decode cX11_readsWord 130 = .ok (.putfield 172, 3) := by decide +kernel
theorem dX11_readsWord_133 : decode cX11_readsWord 133 = .ok (.bipush (-9), 2) := by decide +kernel
theorem dX11_readsWord_135 : decode cX11_readsWord 135 = .ok (.ireturn, 1) := by decide +kernel
theorem dX11_readsNumber_0 : decode cX11_readsNumber 0 = .ok (.aload_n 0, 1) := by decide +kernel
theorem dX11_readsNumber_1 : decode cX11_readsNumber 1 = .ok (.invokevirtual 175, 3) := by decide +kernel
theorem dX11_readsNumber_4 : decode cX11_readsNumber 4 = .ok (.bipush 32, 2) := by decide +kernel
theorem dX11_readsNumber_6 : decode cX11_readsNumber 6 = .ok (.if_icmp .eq 6, 3) := by decide +kernel
theorem dX11_readsNumber_9 : decode cX11_readsNumber 9 = .ok (.bipush (-9), 2) := by decide +kernel
theorem dX11_readsNumber_11 : decode cX11_readsNumber 11 = .ok (.ireturn, 1) := by decide +kernel
theorem dX11_readsNumber_12 : decode cX11_readsNumber 12 = .ok (.aload_n 0, 1) := by decide +kernel
theorem dX11_readsNumber_13 : decode cX11_readsNumber 13 = .ok (.dup, 1) := by decide +kernel
theorem dX11_readsNumber_14 : decode cX11_readsNumber 14 = .ok (.getfield 172, 3) := by decide +kernel
theorem dX11_readsNumber_17 : decode cX11_readsNumber 17 = .ok (.iconst 1, 1) := by decide +kernel
theorem dX11_readsNumber_18 : decode cX11_readsNumber 18 = .ok (.iadd, 1) := by decide +kernel
theorem dX11_readsNumber_19 : decode cX11_readsNumber 19 = .ok (.putfield 172, 3) := by decide +kernel
theorem dX11_readsNumber_22 : decode cX11_readsNumber 22 = .ok (.aload_n 0, 1) := by decide +kernel
theorem dX11_readsNumber_23 : decode cX11_readsNumber 23 = .ok (.invokevirtual 179, 3) := by decide +kernel
theorem dX11_readsNumber_26 : decode cX11_readsNumber 26 = .ok (.ifCond .ne 6, 3) := by decide +kernel
theorem dX11_readsNumber_29 : decode cX11_readsNumber 29 = .ok (.bipush (-9), 2) := by decide +kernel
theorem dX11_readsNumber_31 : decode cX11_readsNumber 31 = .ok (.ireturn, 1) := by decide +kernel
theorem dX11_readsNumber_32 : decode cX11_readsNumber 32 = .ok (.aload_n 0, 1) := by decide +kernel
theorem dX11_readsNumber_33 : decode cX11_readsNumber 33 = .ok (.dup, 1) := by decide +kernel
theorem dX11_readsNumber_34 : decode cX11_readsNumber 34 = .ok (.getfield 172, 3) := by decide +kernel
theorem dX11_readsNumber_37 : decode cX11_readsNumber 37 = .ok (.iconst 1, 1) := by decide +kernel
theorem dX11_readsNumber_38 : decode cX11_readsNumber 38 = .ok (.iadd, 1) := by decide +kernel
theorem dX11_readsNumber_39 : decode cX11_readsNumber 39 = .ok (.putfield 172, 3) := by decide +kernel
theorem dX11_readsNumber_42 : decode cX11_readsNumber 42 = .ok (.aload_n 0, 1) := by decide +kernel
theorem dX11_readsNumber_43 : decode cX11_readsNumber 43 = .ok (.getfield 49, 3) := by decide +kernel
theorem dX11_readsNumber_46 : decode cX11_readsNumber 46 = .ok (.aload_n 0, 1) := by decide +kernel
theorem dX11_readsNumber_47 : decode cX11_readsNumber 47 = .ok (.getfield 172, 3) := by decide +kernel
theorem dX11_readsNumber_50 : decode cX11_readsNumber 50 = .ok (.iconst 1, 1) := by decide +kernel
theorem dX11_readsNumber_51 : decode cX11_readsNumber 51 = .ok (.isub, 1) := by decide +kernel
theorem dX11_readsNumber_52 : decode cX11_readsNumber 52 = .ok (.iaload, 1) := by decide +kernel
theorem dX11_readsNumber_53 : decode cX11_readsNumber 53 = .ok (.bipush 48, 2) := by decide +kernel
theorem dX11_readsNumber_55 : decode cX11_readsNumber 55 = .ok (.isub, 1) := by decide +kernel
theorem dX11_readsNumber_56 : decode cX11_readsNumber 56 = .ok (.ireturn, 1) := by decide +kernel
theorem dX11_readsAct_0 : decode cX11_readsAct 0 = .ok (.aload_n 0, 1) := by decide +kernel
theorem dX11_readsAct_1 : decode cX11_readsAct 1 = .ok (.getfield 172, 3) := by decide +kernel
theorem dX11_readsAct_4 : decode cX11_readsAct 4 = .ok (.istore_n 1, 1) := by decide +kernel
theorem dX11_readsAct_5 : decode cX11_readsAct 5 = .ok (.aload_n 0, 1) := by decide +kernel
theorem dX11_readsAct_6 : decode cX11_readsAct 6 = .ok (.invokevirtual 197, 3) := by decide +kernel
theorem dX11_readsAct_9 : decode cX11_readsAct 9 = .ok (.istore_n 2, 1) := by decide +kernel
theorem dX11_readsAct_10 : decode cX11_readsAct 10 = .ok (.iload_n 2, 1) := by decide +kernel
theorem dX11_readsAct_11 : decode cX11_readsAct 11 = .ok (.ifCond .ge 5, 3) := by decide +kernel
theorem dX11_readsAct_14 : decode cX11_readsAct 14 = .ok (.iconst 0, 1) := by decide +kernel
theorem dX11_readsAct_15 : decode cX11_readsAct 15 = .ok (.ireturn, 1) := by decide +kernel
theorem dX11_readsAct_16 : decode cX11_readsAct 16 = .ok (.aload_n 0, 1) := by decide +kernel
theorem dX11_readsAct_17 : decode cX11_readsAct 17 = .ok (.invokevirtual 200, 3) := by decide +kernel
theorem dX11_readsAct_20 : decode cX11_readsAct 20 = .ok (.istore_n 3, 1) := by decide +kernel
theorem dX11_readsAct_21 : decode cX11_readsAct 21 = .ok (.iload_n 3, 1) := by decide +kernel
theorem dX11_readsAct_22 : decode cX11_readsAct 22 = .ok (.ifCond .ge 5, 3) := by decide +kernel
theorem dX11_readsAct_25 : decode cX11_readsAct 25 = .ok (.iconst 0, 1) := by decide +kernel
theorem dX11_readsAct_26 : decode cX11_readsAct 26 = .ok (.ireturn, 1) := by decide +kernel
theorem dX11_readsAct_27 : decode cX11_readsAct 27 = .ok (.iload_n 2, 1) := by decide +kernel
theorem dX11_readsAct_28 : decode cX11_readsAct 28 = .ok (.iconst 3, 1) := by decide +kernel
theorem dX11_readsAct_29 : decode cX11_readsAct 29 = .ok (.if_icmp .ne 7, 3) := by decide +kernel
theorem dX11_readsAct_32 : decode cX11_readsAct 32 = .ok (.iconst 0, 1) := by decide +kernel
theorem dX11_readsAct_33 : decode cX11_readsAct 33 = .ok (.goto 7, 3) := by decide +kernel
theorem dX11_readsAct_36 : decode cX11_readsAct 36 = .ok (.aload_n 0, 1) := by decide +kernel
theorem dX11_readsAct_37 : decode cX11_readsAct 37 = .ok (.invokevirtual 200, 3) := by decide +kernel
theorem dX11_readsAct_40 : decode cX11_readsAct 40 = .ok (.istore 4, 2) := by decide +kernel
theorem dX11_readsAct_42 : decode cX11_readsAct 42 = .ok (.iload 4, 2) := by decide +kernel
theorem dX11_readsAct_44 : decode cX11_readsAct 44 = .ok (.ifCond .ge 5, 3) := by decide +kernel
theorem dX11_readsAct_47 : decode cX11_readsAct 47 = .ok (.iconst 0, 1) := by decide +kernel
theorem dX11_readsAct_48 : decode cX11_readsAct 48 = .ok (.ireturn, 1) := by decide +kernel
theorem dX11_readsAct_49 : decode cX11_readsAct 49 = .ok (.aload_n 0, 1) := by decide +kernel
theorem dX11_readsAct_50 : decode cX11_readsAct 50 = .ok (.getfield 55, 3) := by decide +kernel
theorem dX11_readsAct_53 : decode cX11_readsAct 53 = .ok (.aload_n 0, 1) := by decide +kernel
theorem dX11_readsAct_54 : decode cX11_readsAct 54 = .ok (.getfield 203, 3) := by decide +kernel
theorem dX11_readsAct_57 : decode cX11_readsAct 57 = .ok (.iload_n 2, 1) := by decide +kernel
theorem dX11_readsAct_58 : decode cX11_readsAct 58 = .ok (.iastore, 1) := by decide +kernel
theorem dX11_readsAct_59 : decode cX11_readsAct 59 = .ok (.aload_n 0, 1) := by decide +kernel
theorem dX11_readsAct_60 : decode cX11_readsAct 60 = .ok (.getfield 58, 3) := by decide +kernel
theorem dX11_readsAct_63 : decode cX11_readsAct 63 = .ok (.aload_n 0, 1) := by decide +kernel
theorem dX11_readsAct_64 : decode cX11_readsAct 64 = .ok (.getfield 203, 3) := by decide +kernel
theorem dX11_readsAct_67 : decode cX11_readsAct 67 = .ok (.iload_n 1, 1) := by decide +kernel
theorem dX11_readsAct_68 : decode cX11_readsAct 68 = .ok (.iastore, 1) := by decide +kernel
theorem dX11_readsAct_69 : decode cX11_readsAct 69 = .ok (.aload_n 0, 1) := by decide +kernel
theorem dX11_readsAct_70 : decode cX11_readsAct 70 = .ok (.getfield 61, 3) := by decide +kernel
theorem dX11_readsAct_73 : decode cX11_readsAct 73 = .ok (.aload_n 0, 1) := by decide +kernel
theorem dX11_readsAct_74 : decode cX11_readsAct 74 = .ok (.getfield 203, 3) := by decide +kernel
theorem dX11_readsAct_77 : decode cX11_readsAct 77 = .ok (.iload_n 3, 1) := by decide +kernel
theorem dX11_readsAct_78 : decode cX11_readsAct 78 = .ok (.iastore, 1) := by decide +kernel
theorem dX11_readsAct_79 : decode cX11_readsAct 79 = .ok (.aload_n 0, 1) := by decide +kernel
theorem dX11_readsAct_80 : decode cX11_readsAct 80 = .ok (.getfield 64, 3) := by decide +kernel
theorem dX11_readsAct_83 : decode cX11_readsAct 83 = .ok (.aload_n 0, 1) := by decide +kernel
theorem dX11_readsAct_84 : decode cX11_readsAct 84 = .ok (.getfield 203, 3) := by decide +kernel
theorem dX11_readsAct_87 : decode cX11_readsAct 87 = .ok (.iload 4, 2) := by decide +kernel
theorem dX11_readsAct_89 : decode cX11_readsAct 89 = .ok (.iastore, 1) := by decide +kernel
theorem dX11_readsAct_90 : decode cX11_readsAct 90 = .ok (.aload_n 0, 1) := by decide +kernel
theorem dX11_readsAct_91 : decode cX11_readsAct 91 = .ok (.dup, 1) := by decide +kernel
theorem dX11_readsAct_92 : decode cX11_readsAct 92 = .ok (.getfield 203, 3) := by decide +kernel
theorem dX11_readsAct_95 : decode cX11_readsAct 95 = .ok (.iconst 1, 1) := by decide +kernel
theorem dX11_readsAct_96 : decode cX11_readsAct 96 = .ok (.iadd, 1) := by decide +kernel
theorem dX11_readsAct_97 : decode cX11_readsAct 97 = .ok (.putfield 203, 3) := by decide +kernel
theorem dX11_readsAct_100 : decode cX11_readsAct 100 = .ok (.iconst 1, 1) := by decide +kernel
theorem dX11_readsAct_101 : decode cX11_readsAct 101 = .ok (.ireturn, 1) := by decide +kernel
theorem dX11_readsActs_0 : decode cX11_readsActs 0 = .ok (.aload_n 0, 1) := by decide +kernel
theorem dX11_readsActs_1 : decode cX11_readsActs 1 = .ok (.iconst 0, 1) := by decide +kernel
theorem dX11_readsActs_2 : decode cX11_readsActs 2 = .ok (.putfield 203, 3) := by decide +kernel
theorem dX11_readsActs_5 : decode cX11_readsActs 5 = .ok (.aload_n 0, 1) := by decide +kernel
theorem dX11_readsActs_6 : decode cX11_readsActs 6 = .ok (.iconst 0, 1) := by decide +kernel
theorem dX11_readsActs_7 : decode cX11_readsActs 7 = .ok (.putfield 172, 3) := by decide +kernel
theorem dX11_readsActs_10 : decode cX11_readsActs 10 = .ok (.aload_n 0, 1) := by decide +kernel
theorem dX11_readsActs_11 : decode cX11_readsActs 11 = .ok (.invokevirtual 206, 3) := by decide +kernel
theorem dX11_readsActs_14 : decode cX11_readsActs 14 = .ok (.istore_n 1, 1) := by decide +kernel
theorem dX11_readsActs_15 : decode cX11_readsActs 15 = .ok (.iload_n 1, 1) := by decide +kernel
theorem dX11_readsActs_16 : decode cX11_readsActs 16 = .ok (.ifCond .eq 30, 3) := by decide +kernel
theorem dX11_readsActs_19 : decode cX11_readsActs 19 = .ok (.aload_n 0, 1) := by decide +kernel
theorem dX11_readsActs_20 : decode cX11_readsActs 20 = .ok (.invokevirtual 175, 3) := by decide +kernel
theorem dX11_readsActs_23 : decode cX11_readsActs 23 = .ok (.bipush 59, 2) := by decide +kernel
theorem dX11_readsActs_25 : decode cX11_readsActs 25 = .ok (.if_icmp .ne 21, 3) := by decide +kernel
theorem dX11_readsActs_28 : decode cX11_readsActs 28 = .ok (.aload_n 0, 1) := by decide +kernel
theorem dX11_readsActs_29 : decode cX11_readsActs 29 = .ok (.dup, 1) := by decide +kernel
theorem dX11_readsActs_30 : decode cX11_readsActs 30 = .ok (.getfield 172, 3) := by decide +kernel
theorem dX11_readsActs_33 : decode cX11_readsActs 33 = .ok (.iconst 1, 1) := by decide +kernel
theorem dX11_readsActs_34 : decode cX11_readsActs 34 = .ok (.iadd, 1) := by decide +kernel
theorem dX11_readsActs_35 : decode cX11_readsActs 35 = .ok (.putfield 172, 3) := by decide +kernel
theorem dX11_readsActs_38 : decode cX11_readsActs 38 = .ok (.aload_n 0, 1) := by decide +kernel
theorem dX11_readsActs_39 : decode cX11_readsActs 39 = .ok (.invokevirtual 206, 3) := by decide +kernel
theorem dX11_readsActs_42 : decode cX11_readsActs 42 = .ok (.istore_n 1, 1) := by decide +kernel
theorem dX11_readsActs_43 : decode cX11_readsActs 43 = .ok (.goto (-28), 3) := by decide +kernel
theorem dX11_readsActs_46 : decode cX11_readsActs 46 = .ok (.iload_n 1, 1) := by decide +kernel
theorem dX11_readsActs_47 : decode cX11_readsActs 47 = .ok (.ifCond .eq 18, 3) := by decide +kernel
theorem dX11_readsActs_50 : decode cX11_readsActs 50 = .ok (.aload_n 0, 1) := by decide +kernel
theorem dX11_readsActs_51 : decode cX11_readsActs 51 = .ok (.getfield 172, 3) := by decide +kernel
theorem dX11_readsActs_54 : decode cX11_readsActs 54 = .ok (.aload_n 0, 1) := by decide +kernel
theorem dX11_readsActs_55 : decode cX11_readsActs 55 = .ok (.getfield 169, 3) := by decide +kernel
theorem dX11_readsActs_58 : decode cX11_readsActs 58 = .ok (.if_icmp .ne 7, 3) := by decide +kernel
theorem dX11_readsActs_61 : decode cX11_readsActs 61 = .ok (.iconst 1, 1) := by decide +kernel
theorem dX11_readsActs_62 : decode cX11_readsActs 62 = .ok (.goto 4, 3) := by decide +kernel
theorem dX11_readsActs_65 : decode cX11_readsActs 65 = .ok (.iconst 0, 1) := by decide +kernel
theorem dX11_readsActs_66 : decode cX11_readsActs 66 = .ok (.ireturn, 1) := by decide +kernel
theorem dX11_does_0 : decode cX11_does 0 = .ok (.aload_n 0, 1) := by decide +kernel
theorem dX11_does_1 : decode cX11_does 1 = .ok (.getfield 61, 3) := by decide +kernel
theorem dX11_does_4 : decode cX11_does 4 = .ok (.iload_n 1, 1) := by decide +kernel
theorem dX11_does_5 : decode cX11_does 5 = .ok (.iaload, 1) := by decide +kernel
theorem dX11_does_6 : decode cX11_does 6 = .ok (.istore_n 2, 1) := by decide +kernel
theorem dX11_does_7 : decode cX11_does 7 = .ok (.aload_n 0, 1) := by decide +kernel
theorem dX11_does_8 : decode cX11_does 8 = .ok (.getfield 64, 3) := by decide +kernel
theorem dX11_does_11 : decode cX11_does 11 = .ok (.iload_n 1, 1) := by decide +kernel
theorem dX11_does_12 : decode cX11_does 12 = .ok (.iaload, 1) := by decide +kernel
theorem dX11_does_13 : decode cX11_does 13 = .ok (.istore_n 3, 1) := by decide +kernel
theorem dX11_does_14 : decode cX11_does 14 = .ok (.aload_n 0, 1) := by decide +kernel
theorem dX11_does_15 : decode cX11_does 15 = .ok (.iload_n 2, 1) := by decide +kernel
theorem dX11_does_16 : decode cX11_does 16 = .ok (.invokevirtual 143, 3) := by decide +kernel
theorem dX11_does_19 : decode cX11_does 19 = .ok (.ifCond .ne 5, 3) := by decide +kernel
theorem dX11_does_22 : decode cX11_does 22 = .ok (.iconst (-1), 1) := by decide +kernel
theorem dX11_does_23 : decode cX11_does 23 = .ok (.ireturn, 1) := by decide +kernel
theorem dX11_does_24 : decode cX11_does 24 = .ok (.aload_n 0, 1) := by decide +kernel
theorem dX11_does_25 : decode cX11_does 25 = .ok (.getfield 55, 3) := by decide +kernel
theorem dX11_does_28 : decode cX11_does 28 = .ok (.iload_n 1, 1) := by decide +kernel
theorem dX11_does_29 : decode cX11_does 29 = .ok (.iaload, 1) := by decide +kernel
theorem dX11_does_30 : decode cX11_does 30 = .ok (.tableswitch 107 0 3 #[30, 64, 83, 101], 30) := by decide +kernel
theorem dX11_does_60 : decode cX11_does 60 = .ok (.aload_n 0, 1) := by decide +kernel
theorem dX11_does_61 : decode cX11_does 61 = .ok (.iload_n 3, 1) := by decide +kernel
theorem dX11_does_62 : decode cX11_does 62 = .ok (.invokevirtual 143, 3) := by decide +kernel
theorem dX11_does_65 : decode cX11_does 65 = .ok (.ifCond .eq 18, 3) := by decide +kernel
theorem dX11_does_68 : decode cX11_does 68 = .ok (.aload_n 0, 1) := by decide +kernel
theorem dX11_does_69 : decode cX11_does 69 = .ok (.getfield 36, 3) := by decide +kernel
theorem dX11_does_72 : decode cX11_does 72 = .ok (.iload_n 2, 1) := by decide +kernel
theorem dX11_does_73 : decode cX11_does 73 = .ok (.iaload, 1) := by decide +kernel
theorem dX11_does_74 : decode cX11_does 74 = .ok (.aload_n 0, 1) := by decide +kernel
theorem dX11_does_75 : decode cX11_does 75 = .ok (.getfield 36, 3) := by decide +kernel
theorem dX11_does_78 : decode cX11_does 78 = .ok (.iload_n 3, 1) := by decide +kernel
theorem dX11_does_79 : decode cX11_does 79 = .ok (.iaload, 1) := by decide +kernel
theorem dX11_does_80 : decode cX11_does 80 = .ok (.if_icmp .eq 7, 3) := by decide +kernel
theorem dX11_does_83 : decode cX11_does 83 = .ok (.iconst (-1), 1) := by decide +kernel
theorem dX11_does_84 : decode cX11_does 84 = .ok (.goto 9, 3) := by decide +kernel
theorem dX11_does_87 : decode cX11_does 87 = .ok (.aload_n 0, 1) := by decide +kernel
theorem dX11_does_88 : decode cX11_does 88 = .ok (.iload_n 2, 1) := by decide +kernel
theorem dX11_does_89 : decode cX11_does 89 = .ok (.iload_n 3, 1) := by decide +kernel
theorem dX11_does_90 : decode cX11_does 90 = .ok (.invokevirtual 146, 3) := by decide +kernel
theorem dX11_does_93 : decode cX11_does 93 = .ok (.ireturn, 1) := by decide +kernel
theorem dX11_does_94 : decode cX11_does 94 = .ok (.aload_n 0, 1) := by decide +kernel
theorem dX11_does_95 : decode cX11_does 95 = .ok (.iload_n 3, 1) := by decide +kernel
theorem dX11_does_96 : decode cX11_does 96 = .ok (.invokevirtual 143, 3) := by decide +kernel
theorem dX11_does_99 : decode cX11_does 99 = .ok (.ifCond .ne 7, 3) := by decide +kernel
theorem dX11_does_102 : decode cX11_does 102 = .ok (.iconst (-1), 1) := by decide +kernel
theorem dX11_does_103 : decode cX11_does 103 = .ok (.goto 9, 3) := by decide +kernel
theorem dX11_does_106 : decode cX11_does 106 = .ok (.aload_n 0, 1) := by decide +kernel
theorem dX11_does_107 : decode cX11_does 107 = .ok (.iload_n 2, 1) := by decide +kernel
theorem dX11_does_108 : decode cX11_does 108 = .ok (.iload_n 3, 1) := by decide +kernel
theorem dX11_does_109 : decode cX11_does 109 = .ok (.invokevirtual 151, 3) := by decide +kernel
theorem dX11_does_112 : decode cX11_does 112 = .ok (.ireturn, 1) := by decide +kernel
theorem dX11_does_113 : decode cX11_does 113 = .ok (.iload_n 3, 1) := by decide +kernel
theorem dX11_does_114 : decode cX11_does 114 = .ok (.bipush 6, 2) := by decide +kernel
theorem dX11_does_116 : decode cX11_does 116 = .ok (.if_icmp .le 8, 3) := by decide +kernel
theorem dX11_does_119 : decode cX11_does 119 = .ok (.bipush (-6), 2) := by decide +kernel
theorem dX11_does_121 : decode cX11_does 121 = .ok (.goto 9, 3) := by decide +kernel
theorem dX11_does_124 : decode cX11_does 124 = .ok (.aload_n 0, 1) := by decide +kernel
theorem dX11_does_125 : decode cX11_does 125 = .ok (.iload_n 2, 1) := by decide +kernel
theorem dX11_does_126 : decode cX11_does 126 = .ok (.iload_n 3, 1) := by decide +kernel
theorem dX11_does_127 : decode cX11_does 127 = .ok (.invokevirtual 157, 3) := by decide +kernel
theorem dX11_does_130 : decode cX11_does 130 = .ok (.ireturn, 1) := by decide +kernel
theorem dX11_does_131 : decode cX11_does 131 = .ok (.aload_n 0, 1) := by decide +kernel
theorem dX11_does_132 : decode cX11_does 132 = .ok (.iload_n 2, 1) := by decide +kernel
theorem dX11_does_133 : decode cX11_does 133 = .ok (.invokevirtual 160, 3) := by decide +kernel
theorem dX11_does_136 : decode cX11_does 136 = .ok (.ireturn, 1) := by decide +kernel
theorem dX11_does_137 : decode cX11_does 137 = .ok (.iload_n 3, 1) := by decide +kernel
theorem dX11_does_138 : decode cX11_does 138 = .ok (.invokestatic 163, 3) := by decide +kernel
theorem dX11_does_141 : decode cX11_does 141 = .ok (.ifCond .ne 7, 3) := by decide +kernel
theorem dX11_does_144 : decode cX11_does 144 = .ok (.iconst (-1), 1) := by decide +kernel
theorem dX11_does_145 : decode cX11_does 145 = .ok (.goto 9, 3) := by decide +kernel
theorem dX11_does_148 : decode cX11_does 148 = .ok (.aload_n 0, 1) := by decide +kernel
theorem dX11_does_149 : decode cX11_does 149 = .ok (.iload_n 2, 1) := by decide +kernel
theorem dX11_does_150 : decode cX11_does 150 = .ok (.iload_n 3, 1) := by decide +kernel
theorem dX11_does_151 : decode cX11_does 151 = .ok (.invokevirtual 166, 3) := by decide +kernel
theorem dX11_does_154 : decode cX11_does 154 = .ok (.ireturn, 1) := by decide +kernel
theorem dX11_acts_0 : decode cX11_acts 0 = .ok (.aload_n 0, 1) := by decide +kernel
theorem dX11_acts_1 : decode cX11_acts 1 = .ok (.invokevirtual 209, 3) := by decide +kernel
theorem dX11_acts_4 : decode cX11_acts 4 = .ok (.istore_n 1, 1) := by decide +kernel
theorem dX11_acts_5 : decode cX11_acts 5 = .ok (.aload_n 0, 1) := by decide +kernel
theorem dX11_acts_6 : decode cX11_acts 6 = .ok (.iconst 0, 1) := by decide +kernel
theorem dX11_acts_7 : decode cX11_acts 7 = .ok (.putfield 169, 3) := by decide +kernel
theorem dX11_acts_10 : decode cX11_acts 10 = .ok (.iload_n 1, 1) := by decide +kernel
theorem dX11_acts_11 : decode cX11_acts 11 = .ok (.ifCond .ne 12, 3) := by decide +kernel
theorem dX11_acts_14 : decode cX11_acts 14 = .ok (.sipush (-1000), 3) := by decide +kernel
theorem dX11_acts_17 : decode cX11_acts 17 = .ok (.aload_n 0, 1) := by decide +kernel
theorem dX11_acts_18 : decode cX11_acts 18 = .ok (.getfield 172, 3) := by decide +kernel
theorem dX11_acts_21 : decode cX11_acts 21 = .ok (.isub, 1) := by decide +kernel
theorem dX11_acts_22 : decode cX11_acts 22 = .ok (.ireturn, 1) := by decide +kernel
theorem dX11_acts_23 : decode cX11_acts 23 = .ok (.aload_n 0, 1) := by decide +kernel
theorem dX11_acts_24 : decode cX11_acts 24 = .ok (.getfield 95, 3) := by decide +kernel
theorem dX11_acts_27 : decode cX11_acts 27 = .ok (.istore_n 2, 1) := by decide +kernel
theorem dX11_acts_28 : decode cX11_acts 28 = .ok (.iconst 0, 1) := by decide +kernel
theorem dX11_acts_29 : decode cX11_acts 29 = .ok (.istore_n 3, 1) := by decide +kernel
theorem dX11_acts_30 : decode cX11_acts 30 = .ok (.iload_n 3, 1) := by decide +kernel
theorem dX11_acts_31 : decode cX11_acts 31 = .ok (.aload_n 0, 1) := by decide +kernel
theorem dX11_acts_32 : decode cX11_acts 32 = .ok (.getfield 203, 3) := by decide +kernel
theorem dX11_acts_35 : decode cX11_acts 35 = .ok (.if_icmp .ge 36, 3) := by decide +kernel
theorem dX11_acts_38 : decode cX11_acts 38 = .ok (.aload_n 0, 1) := by decide +kernel
theorem dX11_acts_39 : decode cX11_acts 39 = .ok (.iload_n 3, 1) := by decide +kernel
theorem dX11_acts_40 : decode cX11_acts 40 = .ok (.invokevirtual 212, 3) := by decide +kernel
theorem dX11_acts_43 : decode cX11_acts 43 = .ok (.ifCond .lt 6, 3) := by decide +kernel
theorem dX11_acts_46 : decode cX11_acts 46 = .ok (.goto 19, 3) := by decide +kernel
theorem dX11_acts_49 : decode cX11_acts 49 = .ok (.aload_n 0, 1) := by decide +kernel
theorem dX11_acts_50 : decode cX11_acts 50 = .ok (.iload_n 2, 1) := by decide +kernel
theorem dX11_acts_51 : decode cX11_acts 51 = .ok (.putfield 95, 3) := by decide +kernel
theorem dX11_acts_54 : decode cX11_acts 54 = .ok (.sipush (-2000), 3) := by decide +kernel
theorem dX11_acts_57 : decode cX11_acts 57 = .ok (.aload_n 0, 1) := by decide +kernel
theorem dX11_acts_58 : decode cX11_acts 58 = .ok (.getfield 58, 3) := by decide +kernel
theorem dX11_acts_61 : decode cX11_acts 61 = .ok (.iload_n 3, 1) := by decide +kernel
theorem dX11_acts_62 : decode cX11_acts 62 = .ok (.iaload, 1) := by decide +kernel
theorem dX11_acts_63 : decode cX11_acts 63 = .ok (.isub, 1) := by decide +kernel
theorem dX11_acts_64 : decode cX11_acts 64 = .ok (.ireturn, 1) := by decide +kernel
theorem dX11_acts_65 : decode cX11_acts 65 = .ok (.iinc 3 1, 3) := by decide +kernel
theorem dX11_acts_68 : decode cX11_acts 68 = .ok (.goto (-38), 3) := by decide +kernel
theorem dX11_acts_71 : decode cX11_acts 71 = .ok (.aload_n 0, 1) := by decide +kernel
theorem dX11_acts_72 : decode cX11_acts 72 = .ok (.iconst 0, 1) := by decide +kernel
theorem dX11_acts_73 : decode cX11_acts 73 = .ok (.putfield 119, 3) := by decide +kernel
theorem dX11_acts_76 : decode cX11_acts 76 = .ok (.aload_n 0, 1) := by decide +kernel
theorem dX11_acts_77 : decode cX11_acts 77 = .ok (.getfield 203, 3) := by decide +kernel
theorem dX11_acts_80 : decode cX11_acts 80 = .ok (.ireturn, 1) := by decide +kernel
theorem dX11_drop_0 : decode cX11_drop 0 = .ok (.aload_n 0, 1) := by decide +kernel
theorem dX11_drop_1 : decode cX11_drop 1 = .ok (.getfield 95, 3) := by decide +kernel
theorem dX11_drop_4 : decode cX11_drop 4 = .ok (.ifCond .ne 10, 3) := by decide +kernel
theorem dX11_drop_7 : decode cX11_drop 7 = .ok (.aload_n 0, 1) := by decide +kernel
theorem dX11_drop_8 : decode cX11_drop 8 = .ok (.bipush (-3), 2) := by decide +kernel
theorem dX11_drop_10 : decode cX11_drop 10 = .ok (.invokevirtual 8, 3) := by decide +kernel
theorem dX11_drop_13 : decode cX11_drop 13 = .ok (.ireturn, 1) := by decide +kernel
theorem dX11_drop_14 : decode cX11_drop 14 = .ok (.aload_n 0, 1) := by decide +kernel
theorem dX11_drop_15 : decode cX11_drop 15 = .ok (.iconst 0, 1) := by decide +kernel
theorem dX11_drop_16 : decode cX11_drop 16 = .ok (.putfield 119, 3) := by decide +kernel
theorem dX11_drop_19 : decode cX11_drop 19 = .ok (.aload_n 0, 1) := by decide +kernel
theorem dX11_drop_20 : decode cX11_drop 20 = .ok (.dup, 1) := by decide +kernel
theorem dX11_drop_21 : decode cX11_drop 21 = .ok (.getfield 95, 3) := by decide +kernel
theorem dX11_drop_24 : decode cX11_drop 24 = .ok (.iconst 1, 1) := by decide +kernel
theorem dX11_drop_25 : decode cX11_drop 25 = .ok (.isub, 1) := by decide +kernel
theorem dX11_drop_26 : decode cX11_drop 26 = .ok (.putfield 95, 3) := by decide +kernel
theorem dX11_drop_29 : decode cX11_drop 29 = .ok (.aload_n 0, 1) := by decide +kernel
theorem dX11_drop_30 : decode cX11_drop 30 = .ok (.getfield 95, 3) := by decide +kernel
theorem dX11_drop_33 : decode cX11_drop 33 = .ok (.ireturn, 1) := by decide +kernel
theorem dX11_change_0 : decode cX11_change 0 = .ok (.aload_n 0, 1) := by decide +kernel
theorem dX11_change_1 : decode cX11_change 1 = .ok (.iload_n 1, 1) := by decide +kernel
theorem dX11_change_2 : decode cX11_change 2 = .ok (.invokevirtual 143, 3) := by decide +kernel
theorem dX11_change_5 : decode cX11_change 5 = .ok (.ifCond .eq 12, 3) := by decide +kernel
theorem dX11_change_8 : decode cX11_change 8 = .ok (.aload_n 0, 1) := by decide +kernel
theorem dX11_change_9 : decode cX11_change 9 = .ok (.iload_n 1, 1) := by decide +kernel
theorem dX11_change_10 : decode cX11_change 10 = .ok (.iload_n 2, 1) := by decide +kernel
theorem dX11_change_11 : decode cX11_change 11 = .ok (.invokevirtual 111, 3) := by decide +kernel
theorem dX11_change_14 : decode cX11_change 14 = .ok (.ifCond .ne 7, 3) := by decide +kernel
theorem dX11_change_17 : decode cX11_change 17 = .ok (.iconst (-1), 1) := by decide +kernel
theorem dX11_change_18 : decode cX11_change 18 = .ok (.goto 11, 3) := by decide +kernel
theorem dX11_change_21 : decode cX11_change 21 = .ok (.iload_n 3, 1) := by decide +kernel
theorem dX11_change_22 : decode cX11_change 22 = .ok (.ldc 215, 2) := by decide +kernel
theorem dX11_change_24 : decode cX11_change 24 = .ok (.ldc 216, 2) := by decide +kernel
theorem dX11_change_26 : decode cX11_change 26 = .ok (.invokestatic 154, 3) := by decide +kernel
theorem dX11_change_29 : decode cX11_change 29 = .ok (.istore 4, 2) := by decide +kernel
theorem dX11_change_31 : decode cX11_change 31 = .ok (.iload 4, 2) := by decide +kernel
theorem dX11_change_33 : decode cX11_change 33 = .ok (.ifCond .eq 10, 3) := by decide +kernel
theorem dX11_change_36 : decode cX11_change 36 = .ok (.aload_n 0, 1) := by decide +kernel
theorem dX11_change_37 : decode cX11_change 37 = .ok (.iload 4, 2) := by decide +kernel
theorem dX11_change_39 : decode cX11_change 39 = .ok (.invokevirtual 217, 3) := by decide +kernel
theorem dX11_change_42 : decode cX11_change 42 = .ok (.ireturn, 1) := by decide +kernel
theorem dX11_change_43 : decode cX11_change 43 = .ok (.bipush 28, 2) := by decide +kernel
theorem dX11_change_45 : decode cX11_change 45 = .ok (.iload_n 1, 1) := by decide +kernel
theorem dX11_change_46 : decode cX11_change 46 = .ok (.imul, 1) := by decide +kernel
theorem dX11_change_47 : decode cX11_change 47 = .ok (.iload_n 2, 1) := by decide +kernel
theorem dX11_change_48 : decode cX11_change 48 = .ok (.iadd, 1) := by decide +kernel
theorem dX11_change_49 : decode cX11_change 49 = .ok (.istore 5, 2) := by decide +kernel
theorem dX11_change_51 : decode cX11_change 51 = .ok (.aload_n 0, 1) := by decide +kernel
theorem dX11_change_52 : decode cX11_change 52 = .ok (.getfield 27, 3) := by decide +kernel
theorem dX11_change_55 : decode cX11_change 55 = .ok (.iload 5, 2) := by decide +kernel
theorem dX11_change_57 : decode cX11_change 57 = .ok (.iaload, 1) := by decide +kernel
theorem dX11_change_58 : decode cX11_change 58 = .ok (.istore 6, 2) := by decide +kernel
theorem dX11_change_60 : decode cX11_change 60 = .ok (.aload_n 0, 1) := by decide +kernel
theorem dX11_change_61 : decode cX11_change 61 = .ok (.iload 5, 2) := by decide +kernel
theorem dX11_change_63 : decode cX11_change 63 = .ok (.iload 6, 2) := by decide +kernel
theorem dX11_change_65 : decode cX11_change 65 = .ok (.invokevirtual 220, 3) := by decide +kernel
theorem dX11_change_68 : decode cX11_change 68 = .ok (.aload_n 0, 1) := by decide +kernel
theorem dX11_change_69 : decode cX11_change 69 = .ok (.getfield 27, 3) := by decide +kernel
theorem dX11_change_72 : decode cX11_change 72 = .ok (.iload 5, 2) := by decide +kernel
theorem dX11_change_74 : decode cX11_change 74 = .ok (.iload_n 3, 1) := by decide +kernel
theorem dX11_change_75 : decode cX11_change 75 = .ok (.iastore, 1) := by decide +kernel
theorem dX11_change_76 : decode cX11_change 76 = .ok (.iload 6, 2) := by decide +kernel
theorem dX11_change_78 : decode cX11_change 78 = .ok (.ireturn, 1) := by decide +kernel
theorem dX11_turn_0 : decode cX11_turn 0 = .ok (.aload_n 0, 1) := by decide +kernel
theorem dX11_turn_1 : decode cX11_turn 1 = .ok (.iload_n 1, 1) := by decide +kernel
theorem dX11_turn_2 : decode cX11_turn 2 = .ok (.invokevirtual 143, 3) := by decide +kernel
theorem dX11_turn_5 : decode cX11_turn 5 = .ok (.ifCond .ne 7, 3) := by decide +kernel
theorem dX11_turn_8 : decode cX11_turn 8 = .ok (.iconst (-1), 1) := by decide +kernel
theorem dX11_turn_9 : decode cX11_turn 9 = .ok (.goto 24, 3) := by decide +kernel
theorem dX11_turn_12 : decode cX11_turn 12 = .ok (.iload_n 2, 1) := by decide +kernel
theorem dX11_turn_13 : decode cX11_turn 13 = .ok (.iconst 0, 1) := by decide +kernel
theorem dX11_turn_14 : decode cX11_turn 14 = .ok (.iconst 5, 1) := by decide +kernel
theorem dX11_turn_15 : decode cX11_turn 15 = .ok (.invokestatic 98, 3) := by decide +kernel
theorem dX11_turn_18 : decode cX11_turn 18 = .ok (.ifCond .ne 8, 3) := by decide +kernel
theorem dX11_turn_21 : decode cX11_turn 21 = .ok (.bipush (-2), 2) := by decide +kernel
theorem dX11_turn_23 : decode cX11_turn 23 = .ok (.goto 10, 3) := by decide +kernel
theorem dX11_turn_26 : decode cX11_turn 26 = .ok (.iload_n 3, 1) := by decide +kernel
theorem dX11_turn_27 : decode cX11_turn 27 = .ok (.iconst 0, 1) := by decide +kernel
theorem dX11_turn_28 : decode cX11_turn 28 = .ok (.bipush 9, 2) := by decide +kernel
theorem dX11_turn_30 : decode cX11_turn 30 = .ok (.invokestatic 154, 3) := by decide +kernel
theorem dX11_turn_33 : decode cX11_turn 33 = .ok (.istore 4, 2) := by decide +kernel
theorem dX11_turn_35 : decode cX11_turn 35 = .ok (.iload 4, 2) := by decide +kernel
theorem dX11_turn_37 : decode cX11_turn 37 = .ok (.ifCond .eq 10, 3) := by decide +kernel
theorem dX11_turn_40 : decode cX11_turn 40 = .ok (.aload_n 0, 1) := by decide +kernel
theorem dX11_turn_41 : decode cX11_turn 41 = .ok (.iload 4, 2) := by decide +kernel
theorem dX11_turn_43 : decode cX11_turn 43 = .ok (.invokevirtual 8, 3) := by decide +kernel
theorem dX11_turn_46 : decode cX11_turn 46 = .ok (.ireturn, 1) := by decide +kernel
theorem dX11_turn_47 : decode cX11_turn 47 = .ok (.bipush 10, 2) := by decide +kernel
theorem dX11_turn_49 : decode cX11_turn 49 = .ok (.aload_n 0, 1) := by decide +kernel
theorem dX11_turn_50 : decode cX11_turn 50 = .ok (.getfield 30, 3) := by decide +kernel
theorem dX11_turn_53 : decode cX11_turn 53 = .ok (.iload_n 1, 1) := by decide +kernel
theorem dX11_turn_54 : decode cX11_turn 54 = .ok (.iaload, 1) := by decide +kernel
theorem dX11_turn_55 : decode cX11_turn 55 = .ok (.imul, 1) := by decide +kernel
theorem dX11_turn_56 : decode cX11_turn 56 = .ok (.aload_n 0, 1) := by decide +kernel
theorem dX11_turn_57 : decode cX11_turn 57 = .ok (.getfield 33, 3) := by decide +kernel
theorem dX11_turn_60 : decode cX11_turn 60 = .ok (.iload_n 1, 1) := by decide +kernel
theorem dX11_turn_61 : decode cX11_turn 61 = .ok (.iaload, 1) := by decide +kernel
theorem dX11_turn_62 : decode cX11_turn 62 = .ok (.iadd, 1) := by decide +kernel
theorem dX11_turn_63 : decode cX11_turn 63 = .ok (.istore 5, 2) := by decide +kernel
theorem dX11_turn_65 : decode cX11_turn 65 = .ok (.aload_n 0, 1) := by decide +kernel
theorem dX11_turn_66 : decode cX11_turn 66 = .ok (.iconst (-1), 1) := by decide +kernel
theorem dX11_turn_67 : decode cX11_turn 67 = .ok (.iload_n 1, 1) := by decide +kernel
theorem dX11_turn_68 : decode cX11_turn 68 = .ok (.isub, 1) := by decide +kernel
theorem dX11_turn_69 : decode cX11_turn 69 = .ok (.iload 5, 2) := by decide +kernel
theorem dX11_turn_71 : decode cX11_turn 71 = .ok (.invokevirtual 220, 3) := by decide +kernel
theorem dX11_turn_74 : decode cX11_turn 74 = .ok (.aload_n 0, 1) := by decide +kernel
theorem dX11_turn_75 : decode cX11_turn 75 = .ok (.getfield 30, 3) := by decide +kernel
theorem dX11_turn_78 : decode cX11_turn 78 = .ok (.iload_n 1, 1) := by decide +kernel
theorem dX11_turn_79 : decode cX11_turn 79 = .ok (.iload_n 2, 1) := by decide +kernel
theorem dX11_turn_80 : decode cX11_turn 80 = .ok (.iastore, 1) := by decide +kernel
theorem dX11_turn_81 : decode cX11_turn 81 = .ok (.aload_n 0, 1) := by decide +kernel
theorem dX11_turn_82 : decode cX11_turn 82 = .ok (.getfield 33, 3) := by decide +kernel
theorem dX11_turn_85 : decode cX11_turn 85 = .ok (.iload_n 1, 1) := by decide +kernel
theorem dX11_turn_86 : decode cX11_turn 86 = .ok (.iload_n 3, 1) := by decide +kernel
theorem dX11_turn_87 : decode cX11_turn 87 = .ok (.iastore, 1) := by decide +kernel
theorem dX11_turn_88 : decode cX11_turn 88 = .ok (.iload 5, 2) := by decide +kernel
theorem dX11_turn_90 : decode cX11_turn 90 = .ok (.ireturn, 1) := by decide +kernel
theorem dX11_of_0 : decode cX11_of 0 = .ok (.aload_n 0, 1) := by decide +kernel
theorem dX11_of_1 : decode cX11_of 1 = .ok (.iload_n 1, 1) := by decide +kernel
theorem dX11_of_2 : decode cX11_of 2 = .ok (.invokevirtual 143, 3) := by decide +kernel
theorem dX11_of_5 : decode cX11_of 5 = .ok (.ifCond .ne 9, 3) := by decide +kernel
theorem dX11_of_8 : decode cX11_of 8 = .ok (.aload_n 0, 1) := by decide +kernel
theorem dX11_of_9 : decode cX11_of 9 = .ok (.iconst (-1), 1) := by decide +kernel
theorem dX11_of_10 : decode cX11_of 10 = .ok (.invokevirtual 8, 3) := by decide +kernel
theorem dX11_of_13 : decode cX11_of 13 = .ok (.ireturn, 1) := by decide +kernel
theorem dX11_of_14 : decode cX11_of 14 = .ok (.iload_n 2, 1) := by decide +kernel
theorem dX11_of_15 : decode cX11_of 15 = .ok (.tableswitch 89 0 5 #[37, 44, 51, 58, 68, 82], 37) := by decide +kernel
theorem dX11_of_52 : decode cX11_of 52 = .ok (.aload_n 0, 1) := by decide +kernel
theorem dX11_of_53 : decode cX11_of 53 = .ok (.getfield 30, 3) := by decide +kernel
theorem dX11_of_56 : decode cX11_of 56 = .ok (.iload_n 1, 1) := by decide +kernel
theorem dX11_of_57 : decode cX11_of 57 = .ok (.iaload, 1) := by decide +kernel
theorem dX11_of_58 : decode cX11_of 58 = .ok (.ireturn, 1) := by decide +kernel
theorem dX11_of_59 : decode cX11_of 59 = .ok (.aload_n 0, 1) := by decide +kernel
theorem dX11_of_60 : decode cX11_of 60 = .ok (.getfield 33, 3) := by decide +kernel
theorem dX11_of_63 : decode cX11_of 63 = .ok (.iload_n 1, 1) := by decide +kernel
theorem dX11_of_64 : decode cX11_of 64 = .ok (.iaload, 1) := by decide +kernel
theorem dX11_of_65 : decode cX11_of 65 = .ok (.ireturn, 1) := by decide +kernel
theorem dX11_of_66 : decode cX11_of 66 = .ok (.aload_n 0, 1) := by decide +kernel
theorem dX11_of_67 : decode cX11_of 67 = .ok (.getfield 36, 3) := by decide +kernel
theorem dX11_of_70 : decode cX11_of 70 = .ok (.iload_n 1, 1) := by decide +kernel
theorem dX11_of_71 : decode cX11_of 71 = .ok (.iaload, 1) := by decide +kernel
theorem dX11_of_72 : decode cX11_of 72 = .ok (.ireturn, 1) := by decide +kernel
theorem dX11_of_73 : decode cX11_of 73 = .ok (.aload_n 0, 1) := by decide +kernel
theorem dX11_of_74 : decode cX11_of 74 = .ok (.getfield 36, 3) := by decide +kernel
theorem dX11_of_77 : decode cX11_of 77 = .ok (.iload_n 1, 1) := by decide +kernel
theorem dX11_of_78 : decode cX11_of 78 = .ok (.iaload, 1) := by decide +kernel
theorem dX11_of_79 : decode cX11_of 79 = .ok (.invokestatic 102, 3) := by decide +kernel
theorem dX11_of_82 : decode cX11_of 82 = .ok (.ireturn, 1) := by decide +kernel
theorem dX11_of_83 : decode cX11_of 83 = .ok (.aload_n 0, 1) := by decide +kernel
theorem dX11_of_84 : decode cX11_of 84 = .ok (.iload_n 1, 1) := by decide +kernel
theorem dX11_of_85 : decode cX11_of 85 = .ok (.iconst 1, 1) := by decide +kernel
theorem dX11_of_86 : decode cX11_of 86 = .ok (.invokevirtual 224, 3) := by decide +kernel
theorem dX11_of_89 : decode cX11_of 89 = .ok (.aload_n 0, 1) := by decide +kernel
theorem dX11_of_90 : decode cX11_of 90 = .ok (.iload_n 1, 1) := by decide +kernel
theorem dX11_of_91 : decode cX11_of 91 = .ok (.iconst 0, 1) := by decide +kernel
theorem dX11_of_92 : decode cX11_of 92 = .ok (.invokevirtual 224, 3) := by decide +kernel
theorem dX11_of_95 : decode cX11_of 95 = .ok (.isub, 1) := by decide +kernel
theorem dX11_of_96 : decode cX11_of 96 = .ok (.ireturn, 1) := by decide +kernel
theorem dX11_of_97 : decode cX11_of 97 = .ok (.aload_n 0, 1) := by decide +kernel
theorem dX11_of_98 : decode cX11_of 98 = .ok (.iload_n 1, 1) := by decide +kernel
theorem dX11_of_99 : decode cX11_of 99 = .ok (.iconst 0, 1) := by decide +kernel
theorem dX11_of_100 : decode cX11_of 100 = .ok (.invokevirtual 224, 3) := by decide +kernel
theorem dX11_of_103 : decode cX11_of 103 = .ok (.ireturn, 1) := by decide +kernel
theorem dX11_of_104 : decode cX11_of 104 = .ok (.aload_n 0, 1) := by decide +kernel
theorem dX11_of_105 : decode cX11_of 105 = .ok (.bipush (-2), 2) := by decide +kernel
theorem dX11_of_107 : decode cX11_of 107 = .ok (.invokevirtual 8, 3) := by decide +kernel
theorem dX11_of_110 : decode cX11_of 110 = .ok (.ireturn, 1) := by decide +kernel
theorem dX11_taken_0 : decode cX11_taken 0 = .ok (.aload_n 0, 1) := by decide +kernel
theorem dX11_taken_1 : decode cX11_taken 1 = .ok (.iload_n 1, 1) := by decide +kernel
theorem dX11_taken_2 : decode cX11_taken 2 = .ok (.invokevirtual 143, 3) := by decide +kernel
theorem dX11_taken_5 : decode cX11_taken 5 = .ok (.ifCond .ne 7, 3) := by decide +kernel
theorem dX11_taken_8 : decode cX11_taken 8 = .ok (.iconst (-1), 1) := by decide +kernel
theorem dX11_taken_9 : decode cX11_taken 9 = .ok (.goto 18, 3) := by decide +kernel
theorem dX11_taken_12 : decode cX11_taken 12 = .ok (.iload_n 2, 1) := by decide +kernel
theorem dX11_taken_13 : decode cX11_taken 13 = .ok (.iconst 0, 1) := by decide +kernel
theorem dX11_taken_14 : decode cX11_taken 14 = .ok (.iconst 5, 1) := by decide +kernel
theorem dX11_taken_15 : decode cX11_taken 15 = .ok (.invokestatic 98, 3) := by decide +kernel
theorem dX11_taken_18 : decode cX11_taken 18 = .ok (.ifCond .ne 8, 3) := by decide +kernel
theorem dX11_taken_21 : decode cX11_taken 21 = .ok (.bipush (-2), 2) := by decide +kernel
theorem dX11_taken_23 : decode cX11_taken 23 = .ok (.goto 4, 3) := by decide +kernel
theorem dX11_taken_26 : decode cX11_taken 26 = .ok (.iconst 0, 1) := by decide +kernel
theorem dX11_taken_27 : decode cX11_taken 27 = .ok (.istore_n 3, 1) := by decide +kernel
theorem dX11_taken_28 : decode cX11_taken 28 = .ok (.iload_n 3, 1) := by decide +kernel
theorem dX11_taken_29 : decode cX11_taken 29 = .ok (.ifCond .eq 9, 3) := by decide +kernel
theorem dX11_taken_32 : decode cX11_taken 32 = .ok (.aload_n 0, 1) := by decide +kernel
theorem dX11_taken_33 : decode cX11_taken 33 = .ok (.iload_n 3, 1) := by decide +kernel
theorem dX11_taken_34 : decode cX11_taken 34 = .ok (.invokevirtual 8, 3) := by decide +kernel
theorem dX11_taken_37 : decode cX11_taken 37 = .ok (.ireturn, 1) := by decide +kernel
theorem dX11_taken_38 : decode cX11_taken 38 = .ok (.aload_n 0, 1) := by decide +kernel
theorem dX11_taken_39 : decode cX11_taken 39 = .ok (.getfield 30, 3) := by decide +kernel
theorem dX11_taken_42 : decode cX11_taken 42 = .ok (.iload_n 1, 1) := by decide +kernel
theorem dX11_taken_43 : decode cX11_taken 43 = .ok (.iaload, 1) := by decide +kernel
theorem dX11_taken_44 : decode cX11_taken 44 = .ok (.istore 4, 2) := by decide +kernel
theorem dX11_taken_46 : decode cX11_taken 46 = .ok (.iload_n 2, 1) := by decide +kernel
theorem dX11_taken_47 : decode cX11_taken 47 = .ok (.ifCond .eq 31, 3) := by decide +kernel
theorem dX11_taken_50 : decode cX11_taken 50 = .ok (.iload_n 2, 1) := by decide +kernel
theorem dX11_taken_51 : decode cX11_taken 51 = .ok (.iload 4, 2) := by decide +kernel
theorem dX11_taken_53 : decode cX11_taken 53 = .ok (.if_icmp .eq 25, 3) := by decide +kernel
theorem dX11_taken_56 : decode cX11_taken 56 = .ok (.iload_n 2, 1) := by decide +kernel
theorem dX11_taken_57 : decode cX11_taken 57 = .ok (.iconst 1, 1) := by decide +kernel
theorem dX11_taken_58 : decode cX11_taken 58 = .ok (.if_icmp .ne 9, 3) := by decide +kernel
theorem dX11_taken_61 : decode cX11_taken 61 = .ok (.iload 4, 2) := by decide +kernel
theorem dX11_taken_63 : decode cX11_taken 63 = .ok (.iconst 4, 1) := by decide +kernel
theorem dX11_taken_64 : decode cX11_taken 64 = .ok (.if_icmp .eq 14, 3) := by decide +kernel
theorem dX11_taken_67 : decode cX11_taken 67 = .ok (.iload_n 2, 1) := by decide +kernel
theorem dX11_taken_68 : decode cX11_taken 68 = .ok (.iconst 2, 1) := by decide +kernel
theorem dX11_taken_69 : decode cX11_taken 69 = .ok (.if_icmp .ne 13, 3) := by decide +kernel
theorem dX11_taken_72 : decode cX11_taken 72 = .ok (.iload 4, 2) := by decide +kernel
theorem dX11_taken_74 : decode cX11_taken 74 = .ok (.iconst 5, 1) := by decide +kernel
theorem dX11_taken_75 : decode cX11_taken 75 = .ok (.if_icmp .ne 7, 3) := by decide +kernel
theorem dX11_taken_78 : decode cX11_taken 78 = .ok (.iconst 1, 1) := by decide +kernel
theorem dX11_taken_79 : decode cX11_taken 79 = .ok (.goto 4, 3) := by decide +kernel
theorem dX11_taken_82 : decode cX11_taken 82 = .ok (.iconst 0, 1) := by decide +kernel
theorem dX11_taken_83 : decode cX11_taken 83 = .ok (.istore 5, 2) := by decide +kernel
theorem dX11_taken_85 : decode cX11_taken 85 = .ok (.iload 5, 2) := by decide +kernel
theorem dX11_taken_87 : decode cX11_taken 87 = .ok (.ifCond .eq 8, 3) := by decide +kernel
theorem dX11_taken_90 : decode cX11_taken 90 = .ok (.iload 4, 2) := by decide +kernel
theorem dX11_taken_92 : decode cX11_taken 92 = .ok (.goto 5, 3) := by decide +kernel
theorem dX11_taken_95 : decode cX11_taken 95 = .ok (.bipush (-16), 2) := by decide +kernel
theorem dX11_taken_97 : decode cX11_taken 97 = .ok (.ireturn, 1) := by decide +kernel
theorem dX11_coefficient_0 : decode cX11_coefficient 0 = .ok (.aload_n 0, 1) := by decide +kernel
theorem dX11_coefficient_1 : decode cX11_coefficient 1 = .ok (.iload_n 1, 1) := by decide +kernel
theorem dX11_coefficient_2 : decode cX11_coefficient 2 = .ok (.invokevirtual 143, 3) := by decide +kernel
theorem dX11_coefficient_5 : decode cX11_coefficient 5 = .ok (.ifCond .eq 12, 3) := by decide +kernel
theorem dX11_coefficient_8 : decode cX11_coefficient 8 = .ok (.aload_n 0, 1) := by decide +kernel
theorem dX11_coefficient_9 : decode cX11_coefficient 9 = .ok (.iload_n 1, 1) := by decide +kernel
theorem dX11_coefficient_10 : decode cX11_coefficient 10 = .ok (.iload_n 2, 1) := by decide +kernel
theorem dX11_coefficient_11 : decode cX11_coefficient 11 = .ok (.invokevirtual 111, 3) := by decide +kernel
theorem dX11_coefficient_14 : decode cX11_coefficient 14 = .ok (.ifCond .ne 11, 3) := by decide +kernel
theorem dX11_coefficient_17 : decode cX11_coefficient 17 = .ok (.aload_n 0, 1) := by decide +kernel
theorem dX11_coefficient_18 : decode cX11_coefficient 18 = .ok (.iconst (-1), 1) := by decide +kernel
theorem dX11_coefficient_19 : decode cX11_coefficient 19 = .ok (.invokevirtual 217, 3) := by decide +kernel
theorem dX11_coefficient_22 : decode cX11_coefficient 22 = .ok (.goto 9, 3) := by decide +kernel
theorem dX11_coefficient_25 : decode cX11_coefficient 25 = .ok (.aload_n 0, 1) := by decide +kernel
theorem dX11_coefficient_26 : decode cX11_coefficient 26 = .ok (.iload_n 1, 1) := by decide +kernel
theorem dX11_coefficient_27 : decode cX11_coefficient 27 = .ok (.iload_n 2, 1) := by decide +kernel
theorem dX11_coefficient_28 : decode cX11_coefficient 28 = .ok (.invokevirtual 115, 3) := by decide +kernel
theorem dX11_coefficient_31 : decode cX11_coefficient 31 = .ok (.ireturn, 1) := by decide +kernel
theorem dX11_power_0 : decode cX11_power 0 = .ok (.lconst 1, 1) := by decide +kernel
theorem dX11_power_1 : decode cX11_power 1 = .ok (.lstore_n 2, 1) := by decide +kernel
theorem dX11_power_2 : decode cX11_power 2 = .ok (.iconst 0, 1) := by decide +kernel
theorem dX11_power_3 : decode cX11_power 3 = .ok (.istore 4, 2) := by decide +kernel
theorem dX11_power_5 : decode cX11_power 5 = .ok (.iload 4, 2) := by decide +kernel
theorem dX11_power_7 : decode cX11_power 7 = .ok (.iload_n 1, 1) := by decide +kernel
theorem dX11_power_8 : decode cX11_power 8 = .ok (.if_icmp .ge 14, 3) := by decide +kernel
theorem dX11_power_11 : decode cX11_power 11 = .ok (.lload_n 2, 1) := by decide +kernel
theorem dX11_power_12 : decode cX11_power 12 = .ok (.iload_n 0, 1) := by decide +kernel
theorem dX11_power_13 : decode cX11_power 13 = .ok (.i2l, 1) := by decide +kernel
theorem dX11_power_14 : decode cX11_power 14 = .ok (.lmul, 1) := by decide +kernel
theorem dX11_power_15 : decode cX11_power 15 = .ok (.lstore_n 2, 1) := by decide +kernel
theorem dX11_power_16 : decode cX11_power 16 = .ok (.iinc 4 1, 3) := by decide +kernel
theorem dX11_power_19 : decode cX11_power 19 = .ok (.goto (-14), 3) := by decide +kernel
theorem dX11_power_22 : decode cX11_power 22 = .ok (.lload_n 2, 1) := by decide +kernel
theorem dX11_power_23 : decode cX11_power 23 = .ok (.lreturn, 1) := by decide +kernel
theorem dX11_valueAt_0 : decode cX11_valueAt 0 = .ok (.lconst 0, 1) := by decide +kernel
theorem dX11_valueAt_1 : decode cX11_valueAt 1 = .ok (.lstore 5, 2) := by decide +kernel
theorem dX11_valueAt_3 : decode cX11_valueAt 3 = .ok (.aload_n 0, 1) := by decide +kernel
theorem dX11_valueAt_4 : decode cX11_valueAt 4 = .ok (.getfield 36, 3) := by decide +kernel
theorem dX11_valueAt_7 : decode cX11_valueAt 7 = .ok (.iload_n 1, 1) := by decide +kernel
theorem dX11_valueAt_8 : decode cX11_valueAt 8 = .ok (.iaload, 1) := by decide +kernel
theorem dX11_valueAt_9 : decode cX11_valueAt 9 = .ok (.istore 7, 2) := by decide +kernel
theorem dX11_valueAt_11 : decode cX11_valueAt 11 = .ok (.iconst 0, 1) := by decide +kernel
theorem dX11_valueAt_12 : decode cX11_valueAt 12 = .ok (.istore 8, 2) := by decide +kernel
theorem dX11_valueAt_14 : decode cX11_valueAt 14 = .ok (.aload_n 0, 1) := by decide +kernel
theorem dX11_valueAt_15 : decode cX11_valueAt 15 = .ok (.iload_n 1, 1) := by decide +kernel
theorem dX11_valueAt_16 : decode cX11_valueAt 16 = .ok (.iload 8, 2) := by decide +kernel
theorem dX11_valueAt_18 : decode cX11_valueAt 18 = .ok (.invokevirtual 111, 3) := by decide +kernel
theorem dX11_valueAt_21 : decode cX11_valueAt 21 = .ok (.ifCond .eq 62, 3) := by decide +kernel
theorem dX11_valueAt_24 : decode cX11_valueAt 24 = .ok (.lload 5, 2) := by decide +kernel
theorem dX11_valueAt_26 : decode cX11_valueAt 26 = .ok (.aload_n 0, 1) := by decide +kernel
theorem dX11_valueAt_27 : decode cX11_valueAt 27 = .ok (.iload_n 1, 1) := by decide +kernel
theorem dX11_valueAt_28 : decode cX11_valueAt 28 = .ok (.iload 8, 2) := by decide +kernel
theorem dX11_valueAt_30 : decode cX11_valueAt 30 = .ok (.invokevirtual 115, 3) := by decide +kernel
theorem dX11_valueAt_33 : decode cX11_valueAt 33 = .ok (.i2l, 1) := by decide +kernel
theorem dX11_valueAt_34 : decode cX11_valueAt 34 = .ok (.iload_n 2, 1) := by decide +kernel
theorem dX11_valueAt_35 : decode cX11_valueAt 35 = .ok (.iload 7, 2) := by decide +kernel
theorem dX11_valueAt_37 : decode cX11_valueAt 37 = .ok (.iload 8, 2) := by decide +kernel
theorem dX11_valueAt_39 : decode cX11_valueAt 39 = .ok (.iconst 0, 1) := by decide +kernel
theorem dX11_valueAt_40 : decode cX11_valueAt 40 = .ok (.invokestatic 17, 3) := by decide +kernel
theorem dX11_valueAt_43 : decode cX11_valueAt 43 = .ok (.invokestatic 227, 3) := by decide +kernel
theorem dX11_valueAt_46 : decode cX11_valueAt 46 = .ok (.lmul, 1) := by decide +kernel
theorem dX11_valueAt_47 : decode cX11_valueAt 47 = .ok (.iload_n 3, 1) := by decide +kernel
theorem dX11_valueAt_48 : decode cX11_valueAt 48 = .ok (.iload 7, 2) := by decide +kernel
theorem dX11_valueAt_50 : decode cX11_valueAt 50 = .ok (.iload 8, 2) := by decide +kernel
theorem dX11_valueAt_52 : decode cX11_valueAt 52 = .ok (.iconst 1, 1) := by decide +kernel
theorem dX11_valueAt_53 : decode cX11_valueAt 53 = .ok (.invokestatic 17, 3) := by decide +kernel
theorem dX11_valueAt_56 : decode cX11_valueAt 56 = .ok (.invokestatic 227, 3) := by decide +kernel
theorem dX11_valueAt_59 : decode cX11_valueAt 59 = .ok (.lmul, 1) := by decide +kernel
theorem dX11_valueAt_60 : decode cX11_valueAt 60 = .ok (.iload 4, 2) := by decide +kernel
theorem dX11_valueAt_62 : decode cX11_valueAt 62 = .ok (.iload 7, 2) := by decide +kernel
theorem dX11_valueAt_64 : decode cX11_valueAt 64 = .ok (.iload 8, 2) := by decide +kernel
theorem dX11_valueAt_66 : decode cX11_valueAt 66 = .ok (.iconst 2, 1) := by decide +kernel
theorem dX11_valueAt_67 : decode cX11_valueAt 67 = .ok (.invokestatic 17, 3) := by decide +kernel
theorem dX11_valueAt_70 : decode cX11_valueAt 70 = .ok (.invokestatic 227, 3) := by decide +kernel
theorem dX11_valueAt_73 : decode cX11_valueAt 73 = .ok (.lmul, 1) := by decide +kernel
theorem dX11_valueAt_74 : decode cX11_valueAt 74 = .ok (.ladd, 1) := by decide +kernel
theorem dX11_valueAt_75 : decode cX11_valueAt 75 = .ok (.lstore 5, 2) := by decide +kernel
theorem dX11_valueAt_77 : decode cX11_valueAt 77 = .ok (.iinc 8 1, 3) := by decide +kernel
theorem dX11_valueAt_80 : decode cX11_valueAt 80 = .ok (.goto (-66), 3) := by decide +kernel
theorem dX11_valueAt_83 : decode cX11_valueAt 83 = .ok (.lload 5, 2) := by decide +kernel
theorem dX11_valueAt_85 : decode cX11_valueAt 85 = .ok (.lreturn, 1) := by decide +kernel
theorem dX11_value_0 : decode cX11_value 0 = .ok (.aload_n 0, 1) := by decide +kernel
theorem dX11_value_1 : decode cX11_value 1 = .ok (.iload_n 1, 1) := by decide +kernel
theorem dX11_value_2 : decode cX11_value 2 = .ok (.invokevirtual 143, 3) := by decide +kernel
theorem dX11_value_5 : decode cX11_value 5 = .ok (.ifCond .ne 7, 3) := by decide +kernel
theorem dX11_value_8 : decode cX11_value 8 = .ok (.iconst (-1), 1) := by decide +kernel
theorem dX11_value_9 : decode cX11_value 9 = .ok (.goto 46, 3) := by decide +kernel
theorem dX11_value_12 : decode cX11_value 12 = .ok (.iload_n 2, 1) := by decide +kernel
theorem dX11_value_13 : decode cX11_value 13 = .ok (.ifCond .lt 12, 3) := by decide +kernel
theorem dX11_value_16 : decode cX11_value 16 = .ok (.iload_n 3, 1) := by decide +kernel
theorem dX11_value_17 : decode cX11_value 17 = .ok (.ifCond .lt 8, 3) := by decide +kernel
theorem dX11_value_20 : decode cX11_value 20 = .ok (.iload 4, 2) := by decide +kernel
theorem dX11_value_22 : decode cX11_value 22 = .ok (.ifCond .ge 8, 3) := by decide +kernel
theorem dX11_value_25 : decode cX11_value 25 = .ok (.bipush (-4), 2) := by decide +kernel
theorem dX11_value_27 : decode cX11_value 27 = .ok (.goto 28, 3) := by decide +kernel
theorem dX11_value_30 : decode cX11_value 30 = .ok (.iload_n 2, 1) := by decide +kernel
theorem dX11_value_31 : decode cX11_value 31 = .ok (.bipush 12, 2) := by decide +kernel
theorem dX11_value_33 : decode cX11_value 33 = .ok (.if_icmp .gt 16, 3) := by decide +kernel
theorem dX11_value_36 : decode cX11_value 36 = .ok (.iload_n 3, 1) := by decide +kernel
theorem dX11_value_37 : decode cX11_value 37 = .ok (.bipush 12, 2) := by decide +kernel
theorem dX11_value_39 : decode cX11_value 39 = .ok (.if_icmp .gt 10, 3) := by decide +kernel
theorem dX11_value_42 : decode cX11_value 42 = .ok (.iload 4, 2) := by decide +kernel
theorem dX11_value_44 : decode cX11_value 44 = .ok (.bipush 12, 2) := by decide +kernel
theorem dX11_value_46 : decode cX11_value 46 = .ok (.if_icmp .le 8, 3) := by decide +kernel
theorem dX11_value_49 : decode cX11_value 49 = .ok (.bipush (-6), 2) := by decide +kernel
theorem dX11_value_51 : decode cX11_value 51 = .ok (.goto 4, 3) := by decide +kernel
theorem dX11_value_54 : decode cX11_value 54 = .ok (.iconst 0, 1) := by decide +kernel
theorem dX11_value_55 : decode cX11_value 55 = .ok (.istore 5, 2) := by decide +kernel
theorem dX11_value_57 : decode cX11_value 57 = .ok (.iload 5, 2) := by decide +kernel
theorem dX11_value_59 : decode cX11_value 59 = .ok (.ifCond .eq 12, 3) := by decide +kernel
theorem dX11_value_62 : decode cX11_value 62 = .ok (.aload_n 0, 1) := by decide +kernel
theorem dX11_value_63 : decode cX11_value 63 = .ok (.iload 5, 2) := by decide +kernel
theorem dX11_value_65 : decode cX11_value 65 = .ok (.invokevirtual 231, 3) := by decide +kernel
theorem dX11_value_68 : decode cX11_value 68 = .ok (.goto 12, 3) := by decide +kernel
theorem dX11_value_71 : decode cX11_value 71 = .ok (.aload_n 0, 1) := by decide +kernel
theorem dX11_value_72 : decode cX11_value 72 = .ok (.iload_n 1, 1) := by decide +kernel
theorem dX11_value_73 : decode cX11_value 73 = .ok (.iload_n 2, 1) := by decide +kernel
theorem dX11_value_74 : decode cX11_value 74 = .ok (.iload_n 3, 1) := by decide +kernel
theorem dX11_value_75 : decode cX11_value 75 = .ok (.iload 4, 2) := by decide +kernel
theorem dX11_value_77 : decode cX11_value 77 = .ok (.invokevirtual 235, 3) := by decide +kernel
theorem dX11_value_80 : decode cX11_value 80 = .ok (.lreturn, 1) := by decide +kernel
theorem dX11_firstFault_0 : decode cX11_firstFault 0 = .ok (.iconst 0, 1) := by decide +kernel
theorem dX11_firstFault_1 : decode cX11_firstFault 1 = .ok (.istore_n 3, 1) := by decide +kernel
theorem dX11_firstFault_2 : decode cX11_firstFault 2 = .ok (.iconst 0, 1) := by decide +kernel
theorem dX11_firstFault_3 : decode cX11_firstFault 3 = .ok (.istore 4, 2) := by decide +kernel
theorem dX11_firstFault_5 : decode cX11_firstFault 5 = .ok (.iload 4, 2) := by decide +kernel
theorem dX11_firstFault_7 : decode cX11_firstFault 7 = .ok (.aload_n 0, 1) := by decide +kernel
theorem dX11_firstFault_8 : decode cX11_firstFault 8 = .ok (.getfield 239, 3) := by decide +kernel
theorem dX11_firstFault_11 : decode cX11_firstFault 11 = .ok (.invokestatic 102, 3) := by decide +kernel
theorem dX11_firstFault_14 : decode cX11_firstFault 14 = .ok (.if_icmp .ge 61, 3) := by decide +kernel
theorem dX11_firstFault_17 : decode cX11_firstFault 17 = .ok (.aload_n 0, 1) := by decide +kernel
theorem dX11_firstFault_18 : decode cX11_firstFault 18 = .ok (.getfield 239, 3) := by decide +kernel
theorem dX11_firstFault_21 : decode cX11_firstFault 21 = .ok (.iload 4, 2) := by decide +kernel
theorem dX11_firstFault_23 : decode cX11_firstFault 23 = .ok (.iload_n 1, 1) := by decide +kernel
theorem dX11_firstFault_24 : decode cX11_firstFault 24 = .ok (.invokestatic 140, 3) := by decide +kernel
theorem dX11_firstFault_27 : decode cX11_firstFault 27 = .ok (.ifCond .ne 6, 3) := by decide +kernel
theorem dX11_firstFault_30 : decode cX11_firstFault 30 = .ok (.goto 39, 3) := by decide +kernel
theorem dX11_firstFault_33 : decode cX11_firstFault 33 = .ok (.iload_n 2, 1) := by decide +kernel
theorem dX11_firstFault_34 : decode cX11_firstFault 34 = .ok (.ifCond .ne 18, 3) := by decide +kernel
theorem dX11_firstFault_37 : decode cX11_firstFault 37 = .ok (.aload_n 0, 1) := by decide +kernel
theorem dX11_firstFault_38 : decode cX11_firstFault 38 = .ok (.getfield 67, 3) := by decide +kernel
theorem dX11_firstFault_41 : decode cX11_firstFault 41 = .ok (.iload 4, 2) := by decide +kernel
theorem dX11_firstFault_43 : decode cX11_firstFault 43 = .ok (.laload, 1) := by decide +kernel
theorem dX11_firstFault_44 : decode cX11_firstFault 44 = .ok (.lconst 0, 1) := by decide +kernel
theorem dX11_firstFault_45 : decode cX11_firstFault 45 = .ok (.lcmp, 1) := by decide +kernel
theorem dX11_firstFault_46 : decode cX11_firstFault 46 = .ok (.ifCond .ge 20, 3) := by decide +kernel
theorem dX11_firstFault_49 : decode cX11_firstFault 49 = .ok (.goto 15, 3) := by decide +kernel
theorem dX11_firstFault_52 : decode cX11_firstFault 52 = .ok (.aload_n 0, 1) := by decide +kernel
theorem dX11_firstFault_53 : decode cX11_firstFault 53 = .ok (.getfield 67, 3) := by decide +kernel
theorem dX11_firstFault_56 : decode cX11_firstFault 56 = .ok (.iload 4, 2) := by decide +kernel
theorem dX11_firstFault_58 : decode cX11_firstFault 58 = .ok (.laload, 1) := by decide +kernel
theorem dX11_firstFault_59 : decode cX11_firstFault 59 = .ok (.lconst 0, 1) := by decide +kernel
theorem dX11_firstFault_60 : decode cX11_firstFault 60 = .ok (.lcmp, 1) := by decide +kernel
theorem dX11_firstFault_61 : decode cX11_firstFault 61 = .ok (.ifCond .gt 5, 3) := by decide +kernel
theorem dX11_firstFault_64 : decode cX11_firstFault 64 = .ok (.iload_n 3, 1) := by decide +kernel
theorem dX11_firstFault_65 : decode cX11_firstFault 65 = .ok (.ireturn, 1) := by decide +kernel
theorem dX11_firstFault_66 : decode cX11_firstFault 66 = .ok (.iinc 3 1, 3) := by decide +kernel
theorem dX11_firstFault_69 : decode cX11_firstFault 69 = .ok (.iinc 4 1, 3) := by decide +kernel
theorem dX11_firstFault_72 : decode cX11_firstFault 72 = .ok (.goto (-67), 3) := by decide +kernel
theorem dX11_firstFault_75 : decode cX11_firstFault 75 = .ok (.bipush (-9), 2) := by decide +kernel
theorem dX11_firstFault_77 : decode cX11_firstFault 77 = .ok (.ireturn, 1) := by decide +kernel
theorem dX11_notSide_0 : decode cX11_notSide 0 = .ok (.aload_n 0, 1) := by decide +kernel
theorem dX11_notSide_1 : decode cX11_notSide 1 = .ok (.iload_n 1, 1) := by decide +kernel
theorem dX11_notSide_2 : decode cX11_notSide 2 = .ok (.invokevirtual 143, 3) := by decide +kernel
theorem dX11_notSide_5 : decode cX11_notSide 5 = .ok (.ifCond .eq 14, 3) := by decide +kernel
theorem dX11_notSide_8 : decode cX11_notSide 8 = .ok (.iload_n 2, 1) := by decide +kernel
theorem dX11_notSide_9 : decode cX11_notSide 9 = .ok (.invokestatic 163, 3) := by decide +kernel
theorem dX11_notSide_12 : decode cX11_notSide 12 = .ok (.ifCond .eq 7, 3) := by decide +kernel
theorem dX11_notSide_15 : decode cX11_notSide 15 = .ok (.iconst 0, 1) := by decide +kernel
theorem dX11_notSide_16 : decode cX11_notSide 16 = .ok (.goto 4, 3) := by decide +kernel
theorem dX11_notSide_19 : decode cX11_notSide 19 = .ok (.iconst (-1), 1) := by decide +kernel
theorem dX11_notSide_20 : decode cX11_notSide 20 = .ok (.ireturn, 1) := by decide +kernel
theorem dX11_lifted_0 : decode cX11_lifted 0 = .ok (.aload_n 0, 1) := by decide +kernel
theorem dX11_lifted_1 : decode cX11_lifted 1 = .ok (.iload_n 1, 1) := by decide +kernel
theorem dX11_lifted_2 : decode cX11_lifted 2 = .ok (.iload_n 2, 1) := by decide +kernel
theorem dX11_lifted_3 : decode cX11_lifted 3 = .ok (.invokevirtual 246, 3) := by decide +kernel
theorem dX11_lifted_6 : decode cX11_lifted 6 = .ok (.istore 5, 2) := by decide +kernel
theorem dX11_lifted_8 : decode cX11_lifted 8 = .ok (.iload 5, 2) := by decide +kernel
theorem dX11_lifted_10 : decode cX11_lifted 10 = .ok (.ifCond .ne 12, 3) := by decide +kernel
theorem dX11_lifted_13 : decode cX11_lifted 13 = .ok (.iload_n 3, 1) := by decide +kernel
theorem dX11_lifted_14 : decode cX11_lifted 14 = .ok (.iconst 0, 1) := by decide +kernel
theorem dX11_lifted_15 : decode cX11_lifted 15 = .ok (.bipush 12, 2) := by decide +kernel
theorem dX11_lifted_17 : decode cX11_lifted 17 = .ok (.invokestatic 154, 3) := by decide +kernel
theorem dX11_lifted_20 : decode cX11_lifted 20 = .ok (.istore 5, 2) := by decide +kernel
theorem dX11_lifted_22 : decode cX11_lifted 22 = .ok (.iload 5, 2) := by decide +kernel
theorem dX11_lifted_24 : decode cX11_lifted 24 = .ok (.ifCond .eq 10, 3) := by decide +kernel
theorem dX11_lifted_27 : decode cX11_lifted 27 = .ok (.aload_n 0, 1) := by decide +kernel
theorem dX11_lifted_28 : decode cX11_lifted 28 = .ok (.iload 5, 2) := by decide +kernel
theorem dX11_lifted_30 : decode cX11_lifted 30 = .ok (.invokevirtual 231, 3) := by decide +kernel
theorem dX11_lifted_33 : decode cX11_lifted 33 = .ok (.lreturn, 1) := by decide +kernel
theorem dX11_lifted_34 : decode cX11_lifted 34 = .ok (.aload_n 0, 1) := by decide +kernel
theorem dX11_lifted_35 : decode cX11_lifted 35 = .ok (.iload_n 1, 1) := by decide +kernel
theorem dX11_lifted_36 : decode cX11_lifted 36 = .ok (.iload_n 2, 1) := by decide +kernel
theorem dX11_lifted_37 : decode cX11_lifted 37 = .ok (.iload_n 3, 1) := by decide +kernel
theorem dX11_lifted_38 : decode cX11_lifted 38 = .ok (.invokevirtual 136, 3) := by decide +kernel
theorem dX11_lifted_41 : decode cX11_lifted 41 = .ok (.iconst 0, 1) := by decide +kernel
theorem dX11_lifted_42 : decode cX11_lifted 42 = .ok (.istore 6, 2) := by decide +kernel
theorem dX11_lifted_44 : decode cX11_lifted 44 = .ok (.iconst 0, 1) := by decide +kernel
theorem dX11_lifted_45 : decode cX11_lifted 45 = .ok (.istore 7, 2) := by decide +kernel
theorem dX11_lifted_47 : decode cX11_lifted 47 = .ok (.iload 7, 2) := by decide +kernel
theorem dX11_lifted_49 : decode cX11_lifted 49 = .ok (.aload_n 0, 1) := by decide +kernel
theorem dX11_lifted_50 : decode cX11_lifted 50 = .ok (.getfield 239, 3) := by decide +kernel
theorem dX11_lifted_53 : decode cX11_lifted 53 = .ok (.invokestatic 102, 3) := by decide +kernel
theorem dX11_lifted_56 : decode cX11_lifted 56 = .ok (.if_icmp .ge 43, 3) := by decide +kernel
theorem dX11_lifted_59 : decode cX11_lifted 59 = .ok (.aload_n 0, 1) := by decide +kernel
theorem dX11_lifted_60 : decode cX11_lifted 60 = .ok (.getfield 239, 3) := by decide +kernel
theorem dX11_lifted_63 : decode cX11_lifted 63 = .ok (.iload 7, 2) := by decide +kernel
theorem dX11_lifted_65 : decode cX11_lifted 65 = .ok (.iload_n 2, 1) := by decide +kernel
theorem dX11_lifted_66 : decode cX11_lifted 66 = .ok (.invokestatic 140, 3) := by decide +kernel
theorem dX11_lifted_69 : decode cX11_lifted 69 = .ok (.ifCond .ne 6, 3) := by decide +kernel
theorem dX11_lifted_72 : decode cX11_lifted 72 = .ok (.goto 21, 3) := by decide +kernel
theorem dX11_lifted_75 : decode cX11_lifted 75 = .ok (.iload 6, 2) := by decide +kernel
theorem dX11_lifted_77 : decode cX11_lifted 77 = .ok (.iload 4, 2) := by decide +kernel
theorem dX11_lifted_79 : decode cX11_lifted 79 = .ok (.if_icmp .ne 11, 3) := by decide +kernel
theorem dX11_lifted_82 : decode cX11_lifted 82 = .ok (.aload_n 0, 1) := by decide +kernel
theorem dX11_lifted_83 : decode cX11_lifted 83 = .ok (.getfield 67, 3) := by decide +kernel
theorem dX11_lifted_86 : decode cX11_lifted 86 = .ok (.iload 7, 2) := by decide +kernel
theorem dX11_lifted_88 : decode cX11_lifted 88 = .ok (.laload, 1) := by decide +kernel
theorem dX11_lifted_89 : decode cX11_lifted 89 = .ok (.lreturn, 1) := by decide +kernel
theorem dX11_lifted_90 : decode cX11_lifted 90 = .ok (.iinc 6 1, 3) := by decide +kernel
theorem dX11_lifted_93 : decode cX11_lifted 93 = .ok (.iinc 7 1, 3) := by decide +kernel
theorem dX11_lifted_96 : decode cX11_lifted 96 = .ok (.goto (-49), 3) := by decide +kernel
theorem dX11_lifted_99 : decode cX11_lifted 99 = .ok (.aload_n 0, 1) := by decide +kernel
theorem dX11_lifted_100 : decode cX11_lifted 100 = .ok (.iconst (-1), 1) := by decide +kernel
theorem dX11_lifted_101 : decode cX11_lifted 101 = .ok (.invokevirtual 231, 3) := by decide +kernel
theorem dX11_lifted_104 : decode cX11_lifted 104 = .ok (.lreturn, 1) := by decide +kernel
theorem dX11_fault_0 : decode cX11_fault 0 = .ok (.aload_n 0, 1) := by decide +kernel
theorem dX11_fault_1 : decode cX11_fault 1 = .ok (.iload_n 1, 1) := by decide +kernel
theorem dX11_fault_2 : decode cX11_fault 2 = .ok (.iload_n 2, 1) := by decide +kernel
theorem dX11_fault_3 : decode cX11_fault 3 = .ok (.invokevirtual 246, 3) := by decide +kernel
theorem dX11_fault_6 : decode cX11_fault 6 = .ok (.ifCond .eq 7, 3) := by decide +kernel
theorem dX11_fault_9 : decode cX11_fault 9 = .ok (.iconst (-1), 1) := by decide +kernel
theorem dX11_fault_10 : decode cX11_fault 10 = .ok (.goto 23, 3) := by decide +kernel
theorem dX11_fault_13 : decode cX11_fault 13 = .ok (.iload 4, 2) := by decide +kernel
theorem dX11_fault_15 : decode cX11_fault 15 = .ok (.invokestatic 249, 3) := by decide +kernel
theorem dX11_fault_18 : decode cX11_fault 18 = .ok (.ifCond .ne 8, 3) := by decide +kernel
theorem dX11_fault_21 : decode cX11_fault 21 = .ok (.bipush (-2), 2) := by decide +kernel
theorem dX11_fault_23 : decode cX11_fault 23 = .ok (.goto 10, 3) := by decide +kernel
theorem dX11_fault_26 : decode cX11_fault 26 = .ok (.iload_n 3, 1) := by decide +kernel
theorem dX11_fault_27 : decode cX11_fault 27 = .ok (.iconst 0, 1) := by decide +kernel
theorem dX11_fault_28 : decode cX11_fault 28 = .ok (.bipush 12, 2) := by decide +kernel
theorem dX11_fault_30 : decode cX11_fault 30 = .ok (.invokestatic 154, 3) := by decide +kernel
theorem dX11_fault_33 : decode cX11_fault 33 = .ok (.istore 5, 2) := by decide +kernel
theorem dX11_fault_35 : decode cX11_fault 35 = .ok (.iload 5, 2) := by decide +kernel
theorem dX11_fault_37 : decode cX11_fault 37 = .ok (.ifCond .eq 10, 3) := by decide +kernel
theorem dX11_fault_40 : decode cX11_fault 40 = .ok (.aload_n 0, 1) := by decide +kernel
theorem dX11_fault_41 : decode cX11_fault 41 = .ok (.iload 5, 2) := by decide +kernel
theorem dX11_fault_43 : decode cX11_fault 43 = .ok (.invokevirtual 8, 3) := by decide +kernel
theorem dX11_fault_46 : decode cX11_fault 46 = .ok (.ireturn, 1) := by decide +kernel
theorem dX11_fault_47 : decode cX11_fault 47 = .ok (.aload_n 0, 1) := by decide +kernel
theorem dX11_fault_48 : decode cX11_fault 48 = .ok (.iload_n 1, 1) := by decide +kernel
theorem dX11_fault_49 : decode cX11_fault 49 = .ok (.iload_n 2, 1) := by decide +kernel
theorem dX11_fault_50 : decode cX11_fault 50 = .ok (.iload_n 3, 1) := by decide +kernel
theorem dX11_fault_51 : decode cX11_fault 51 = .ok (.invokevirtual 136, 3) := by decide +kernel
theorem dX11_fault_54 : decode cX11_fault 54 = .ok (.aload_n 0, 1) := by decide +kernel
theorem dX11_fault_55 : decode cX11_fault 55 = .ok (.iload_n 2, 1) := by decide +kernel
theorem dX11_fault_56 : decode cX11_fault 56 = .ok (.iload 4, 2) := by decide +kernel
theorem dX11_fault_58 : decode cX11_fault 58 = .ok (.invokevirtual 252, 3) := by decide +kernel
theorem dX11_fault_61 : decode cX11_fault 61 = .ok (.ireturn, 1) := by decide +kernel
theorem dX11_leastOf_0 : decode cX11_leastOf 0 = .ok (.aload_n 0, 1) := by decide +kernel
theorem dX11_leastOf_1 : decode cX11_leastOf 1 = .ok (.iload_n 1, 1) := by decide +kernel
theorem dX11_leastOf_2 : decode cX11_leastOf 2 = .ok (.iload_n 2, 1) := by decide +kernel
theorem dX11_leastOf_3 : decode cX11_leastOf 3 = .ok (.iconst 0, 1) := by decide +kernel
theorem dX11_leastOf_4 : decode cX11_leastOf 4 = .ok (.invokevirtual 136, 3) := by decide +kernel
theorem dX11_leastOf_7 : decode cX11_leastOf 7 = .ok (.iconst 0, 1) := by decide +kernel
theorem dX11_leastOf_8 : decode cX11_leastOf 8 = .ok (.istore 4, 2) := by decide +kernel
theorem dX11_leastOf_10 : decode cX11_leastOf 10 = .ok (.iload 4, 2) := by decide +kernel
theorem dX11_leastOf_12 : decode cX11_leastOf 12 = .ok (.bipush 12, 2) := by decide +kernel
theorem dX11_leastOf_14 : decode cX11_leastOf 14 = .ok (.if_icmp .gt 33, 3) := by decide +kernel
theorem dX11_leastOf_17 : decode cX11_leastOf 17 = .ok (.aload_n 0, 1) := by decide +kernel
theorem dX11_leastOf_18 : decode cX11_leastOf 18 = .ok (.iload_n 2, 1) := by decide +kernel
theorem dX11_leastOf_19 : decode cX11_leastOf 19 = .ok (.iload_n 3, 1) := by decide +kernel
theorem dX11_leastOf_20 : decode cX11_leastOf 20 = .ok (.invokevirtual 252, 3) := by decide +kernel
theorem dX11_leastOf_23 : decode cX11_leastOf 23 = .ok (.ifCond .ge 6, 3) := by decide +kernel
theorem dX11_leastOf_26 : decode cX11_leastOf 26 = .ok (.iload 4, 2) := by decide +kernel
theorem dX11_leastOf_28 : decode cX11_leastOf 28 = .ok (.ireturn, 1) := by decide +kernel
theorem dX11_leastOf_29 : decode cX11_leastOf 29 = .ok (.iload 4, 2) := by decide +kernel
theorem dX11_leastOf_31 : decode cX11_leastOf 31 = .ok (.bipush 12, 2) := by decide +kernel
theorem dX11_leastOf_33 : decode cX11_leastOf 33 = .ok (.if_icmp .ge 8, 3) := by decide +kernel
theorem dX11_leastOf_36 : decode cX11_leastOf 36 = .ok (.aload_n 0, 1) := by decide +kernel
theorem dX11_leastOf_37 : decode cX11_leastOf 37 = .ok (.iload_n 2, 1) := by decide +kernel
theorem dX11_leastOf_38 : decode cX11_leastOf 38 = .ok (.invokevirtual 242, 3) := by decide +kernel
theorem dX11_leastOf_41 : decode cX11_leastOf 41 = .ok (.iinc 4 1, 3) := by decide +kernel
theorem dX11_leastOf_44 : decode cX11_leastOf 44 = .ok (.goto (-34), 3) := by decide +kernel
theorem dX11_leastOf_47 : decode cX11_leastOf 47 = .ok (.bipush (-9), 2) := by decide +kernel
theorem dX11_leastOf_49 : decode cX11_leastOf 49 = .ok (.ireturn, 1) := by decide +kernel
theorem dX11_least_0 : decode cX11_least 0 = .ok (.aload_n 0, 1) := by decide +kernel
theorem dX11_least_1 : decode cX11_least 1 = .ok (.iload_n 1, 1) := by decide +kernel
theorem dX11_least_2 : decode cX11_least 2 = .ok (.iload_n 2, 1) := by decide +kernel
theorem dX11_least_3 : decode cX11_least 3 = .ok (.invokevirtual 246, 3) := by decide +kernel
theorem dX11_least_6 : decode cX11_least 6 = .ok (.ifCond .eq 7, 3) := by decide +kernel
theorem dX11_least_9 : decode cX11_least 9 = .ok (.iconst (-1), 1) := by decide +kernel
theorem dX11_least_10 : decode cX11_least 10 = .ok (.goto 16, 3) := by decide +kernel
theorem dX11_least_13 : decode cX11_least 13 = .ok (.iload_n 3, 1) := by decide +kernel
theorem dX11_least_14 : decode cX11_least 14 = .ok (.invokestatic 249, 3) := by decide +kernel
theorem dX11_least_17 : decode cX11_least 17 = .ok (.ifCond .ne 8, 3) := by decide +kernel
theorem dX11_least_20 : decode cX11_least 20 = .ok (.bipush (-2), 2) := by decide +kernel
theorem dX11_least_22 : decode cX11_least 22 = .ok (.goto 4, 3) := by decide +kernel
theorem dX11_least_25 : decode cX11_least 25 = .ok (.iconst 0, 1) := by decide +kernel
theorem dX11_least_26 : decode cX11_least 26 = .ok (.istore 4, 2) := by decide +kernel
theorem dX11_least_28 : decode cX11_least 28 = .ok (.iload 4, 2) := by decide +kernel
theorem dX11_least_30 : decode cX11_least 30 = .ok (.ifCond .eq 12, 3) := by decide +kernel
theorem dX11_least_33 : decode cX11_least 33 = .ok (.aload_n 0, 1) := by decide +kernel
theorem dX11_least_34 : decode cX11_least 34 = .ok (.iload 4, 2) := by decide +kernel
theorem dX11_least_36 : decode cX11_least 36 = .ok (.invokevirtual 8, 3) := by decide +kernel
theorem dX11_least_39 : decode cX11_least 39 = .ok (.goto 10, 3) := by decide +kernel
theorem dX11_least_42 : decode cX11_least 42 = .ok (.aload_n 0, 1) := by decide +kernel
theorem dX11_least_43 : decode cX11_least 43 = .ok (.iload_n 1, 1) := by decide +kernel
theorem dX11_least_44 : decode cX11_least 44 = .ok (.iload_n 2, 1) := by decide +kernel
theorem dX11_least_45 : decode cX11_least 45 = .ok (.iload_n 3, 1) := by decide +kernel
theorem dX11_least_46 : decode cX11_least 46 = .ok (.invokevirtual 255, 3) := by decide +kernel
theorem dX11_least_49 : decode cX11_least 49 = .ok (.ireturn, 1) := by decide +kernel
theorem dX11_firstPoint_0 : decode cX11_firstPoint 0 = .ok (.aload_n 0, 1) := by decide +kernel
theorem dX11_firstPoint_1 : decode cX11_firstPoint 1 = .ok (.iload_n 1, 1) := by decide +kernel
theorem dX11_firstPoint_2 : decode cX11_firstPoint 2 = .ok (.putfield 258, 3) := by decide +kernel
theorem dX11_firstPoint_5 : decode cX11_firstPoint 5 = .ok (.aload_n 0, 1) := by decide +kernel
theorem dX11_firstPoint_6 : decode cX11_firstPoint 6 = .ok (.iconst 0, 1) := by decide +kernel
theorem dX11_firstPoint_7 : decode cX11_firstPoint 7 = .ok (.putfield 261, 3) := by decide +kernel
theorem dX11_firstPoint_10 : decode cX11_firstPoint 10 = .ok (.aload_n 0, 1) := by decide +kernel
theorem dX11_firstPoint_11 : decode cX11_firstPoint 11 = .ok (.iconst 0, 1) := by decide +kernel
theorem dX11_firstPoint_12 : decode cX11_firstPoint 12 = .ok (.putfield 264, 3) := by decide +kernel
theorem dX11_firstPoint_15 : decode cX11_firstPoint 15 = .ok (.return_, 1) := by decide +kernel
theorem dX11_nextPoint_0 : decode cX11_nextPoint 0 = .ok (.aload_n 0, 1) := by decide +kernel
theorem dX11_nextPoint_1 : decode cX11_nextPoint 1 = .ok (.getfield 261, 3) := by decide +kernel
theorem dX11_nextPoint_4 : decode cX11_nextPoint 4 = .ok (.ifCond .le 25, 3) := by decide +kernel
theorem dX11_nextPoint_7 : decode cX11_nextPoint 7 = .ok (.aload_n 0, 1) := by decide +kernel
theorem dX11_nextPoint_8 : decode cX11_nextPoint 8 = .ok (.dup, 1) := by decide +kernel
theorem dX11_nextPoint_9 : decode cX11_nextPoint 9 = .ok (.getfield 261, 3) := by decide +kernel
theorem dX11_nextPoint_12 : decode cX11_nextPoint 12 = .ok (.iconst 1, 1) := by decide +kernel
theorem dX11_nextPoint_13 : decode cX11_nextPoint 13 = .ok (.isub, 1) := by decide +kernel
theorem dX11_nextPoint_14 : decode cX11_nextPoint 14 = .ok (.putfield 261, 3) := by decide +kernel
theorem dX11_nextPoint_17 : decode cX11_nextPoint 17 = .ok (.aload_n 0, 1) := by decide +kernel
theorem dX11_nextPoint_18 : decode cX11_nextPoint 18 = .ok (.dup, 1) := by decide +kernel
theorem dX11_nextPoint_19 : decode cX11_nextPoint 19 = .ok (.getfield 264, 3) := by decide +kernel
theorem dX11_nextPoint_22 : decode cX11_nextPoint 22 = .ok (.iconst 1, 1) := by decide +kernel
theorem dX11_nextPoint_23 : decode cX11_nextPoint 23 = .ok (.iadd, 1) := by decide +kernel
theorem dX11_nextPoint_24 : decode cX11_nextPoint 24 = .ok (.putfield 264, 3) := by decide +kernel
theorem dX11_nextPoint_27 : decode cX11_nextPoint 27 = .ok (.iconst 1, 1) := by decide +kernel
theorem dX11_nextPoint_28 : decode cX11_nextPoint 28 = .ok (.ireturn, 1) := by decide +kernel
theorem dX11_nextPoint_29 : decode cX11_nextPoint 29 = .ok (.aload_n 0, 1) := by decide +kernel
theorem dX11_nextPoint_30 : decode cX11_nextPoint 30 = .ok (.dup, 1) := by decide +kernel
theorem dX11_nextPoint_31 : decode cX11_nextPoint 31 = .ok (.getfield 258, 3) := by decide +kernel
theorem dX11_nextPoint_34 : decode cX11_nextPoint 34 = .ok (.iconst 1, 1) := by decide +kernel
theorem dX11_nextPoint_35 : decode cX11_nextPoint 35 = .ok (.isub, 1) := by decide +kernel
theorem dX11_nextPoint_36 : decode cX11_nextPoint 36 = .ok (.putfield 258, 3) := by decide +kernel
theorem dX11_nextPoint_39 : decode cX11_nextPoint 39 = .ok (.aload_n 0, 1) := by decide +kernel
theorem dX11_nextPoint_40 : decode cX11_nextPoint 40 = .ok (.iload_n 1, 1) := by decide +kernel
theorem dX11_nextPoint_41 : decode cX11_nextPoint 41 = .ok (.aload_n 0, 1) := by decide +kernel
theorem dX11_nextPoint_42 : decode cX11_nextPoint 42 = .ok (.getfield 258, 3) := by decide +kernel
theorem dX11_nextPoint_45 : decode cX11_nextPoint 45 = .ok (.isub, 1) := by decide +kernel
theorem dX11_nextPoint_46 : decode cX11_nextPoint 46 = .ok (.putfield 261, 3) := by decide +kernel
theorem dX11_nextPoint_49 : decode cX11_nextPoint 49 = .ok (.aload_n 0, 1) := by decide +kernel
theorem dX11_nextPoint_50 : decode cX11_nextPoint 50 = .ok (.iconst 0, 1) := by decide +kernel
theorem dX11_nextPoint_51 : decode cX11_nextPoint 51 = .ok (.putfield 264, 3) := by decide +kernel
theorem dX11_nextPoint_54 : decode cX11_nextPoint 54 = .ok (.aload_n 0, 1) := by decide +kernel
theorem dX11_nextPoint_55 : decode cX11_nextPoint 55 = .ok (.getfield 258, 3) := by decide +kernel
theorem dX11_nextPoint_58 : decode cX11_nextPoint 58 = .ok (.ifCond .lt 7, 3) := by decide +kernel
theorem dX11_nextPoint_61 : decode cX11_nextPoint 61 = .ok (.iconst 1, 1) := by decide +kernel
theorem dX11_nextPoint_62 : decode cX11_nextPoint 62 = .ok (.goto 4, 3) := by decide +kernel
theorem dX11_nextPoint_65 : decode cX11_nextPoint 65 = .ok (.iconst 0, 1) := by decide +kernel
theorem dX11_nextPoint_66 : decode cX11_nextPoint 66 = .ok (.ireturn, 1) := by decide +kernel
theorem dX11_isPointOn_0 : decode cX11_isPointOn 0 = .ok (.iload_n 1, 1) := by decide +kernel
theorem dX11_isPointOn_1 : decode cX11_isPointOn 1 = .ok (.iconst 1, 1) := by decide +kernel
theorem dX11_isPointOn_2 : decode cX11_isPointOn 2 = .ok (.iand, 1) := by decide +kernel
theorem dX11_isPointOn_3 : decode cX11_isPointOn 3 = .ok (.ifCond .ne 10, 3) := by decide +kernel
theorem dX11_isPointOn_6 : decode cX11_isPointOn 6 = .ok (.aload_n 0, 1) := by decide +kernel
theorem dX11_isPointOn_7 : decode cX11_isPointOn 7 = .ok (.getfield 258, 3) := by decide +kernel
theorem dX11_isPointOn_10 : decode cX11_isPointOn 10 = .ok (.ifCond .ne 33, 3) := by decide +kernel
theorem dX11_isPointOn_13 : decode cX11_isPointOn 13 = .ok (.iload_n 1, 1) := by decide +kernel
theorem dX11_isPointOn_14 : decode cX11_isPointOn 14 = .ok (.iconst 2, 1) := by decide +kernel
theorem dX11_isPointOn_15 : decode cX11_isPointOn 15 = .ok (.iand, 1) := by decide +kernel
theorem dX11_isPointOn_16 : decode cX11_isPointOn 16 = .ok (.ifCond .ne 10, 3) := by decide +kernel
theorem dX11_isPointOn_19 : decode cX11_isPointOn 19 = .ok (.aload_n 0, 1) := by decide +kernel
theorem dX11_isPointOn_20 : decode cX11_isPointOn 20 = .ok (.getfield 261, 3) := by decide +kernel
theorem dX11_isPointOn_23 : decode cX11_isPointOn 23 = .ok (.ifCond .ne 20, 3) := by decide +kernel
theorem dX11_isPointOn_26 : decode cX11_isPointOn 26 = .ok (.iload_n 1, 1) := by decide +kernel
theorem dX11_isPointOn_27 : decode cX11_isPointOn 27 = .ok (.iconst 4, 1) := by decide +kernel
theorem dX11_isPointOn_28 : decode cX11_isPointOn 28 = .ok (.iand, 1) := by decide +kernel
theorem dX11_isPointOn_29 : decode cX11_isPointOn 29 = .ok (.ifCond .ne 10, 3) := by decide +kernel
theorem dX11_isPointOn_32 : decode cX11_isPointOn 32 = .ok (.aload_n 0, 1) := by decide +kernel
theorem dX11_isPointOn_33 : decode cX11_isPointOn 33 = .ok (.getfield 264, 3) := by decide +kernel
theorem dX11_isPointOn_36 : decode cX11_isPointOn 36 = .ok (.ifCond .ne 7, 3) := by decide +kernel
theorem dX11_isPointOn_39 : decode cX11_isPointOn 39 = .ok (.iconst 1, 1) := by decide +kernel
theorem dX11_isPointOn_40 : decode cX11_isPointOn 40 = .ok (.goto 4, 3) := by decide +kernel
theorem dX11_isPointOn_43 : decode cX11_isPointOn 43 = .ok (.iconst 0, 1) := by decide +kernel
theorem dX11_isPointOn_44 : decode cX11_isPointOn 44 = .ok (.ireturn, 1) := by decide +kernel
theorem dX11_looks_0 : decode cX11_looks 0 = .ok (.aload_n 0, 1) := by decide +kernel
theorem dX11_looks_1 : decode cX11_looks 1 = .ok (.iconst 0, 1) := by decide +kernel
theorem dX11_looks_2 : decode cX11_looks 2 = .ok (.putfield 267, 3) := by decide +kernel
theorem dX11_looks_5 : decode cX11_looks 5 = .ok (.aload_n 0, 1) := by decide +kernel
theorem dX11_looks_6 : decode cX11_looks 6 = .ok (.iconst 0, 1) := by decide +kernel
theorem dX11_looks_7 : decode cX11_looks 7 = .ok (.putfield 270, 3) := by decide +kernel
theorem dX11_looks_10 : decode cX11_looks 10 = .ok (.bipush (-9), 2) := by decide +kernel
theorem dX11_looks_12 : decode cX11_looks 12 = .ok (.istore 5, 2) := by decide +kernel
theorem dX11_looks_14 : decode cX11_looks 14 = .ok (.aload_n 0, 1) := by decide +kernel
theorem dX11_looks_15 : decode cX11_looks 15 = .ok (.iload_n 3, 1) := by decide +kernel
theorem dX11_looks_16 : decode cX11_looks 16 = .ok (.invokevirtual 273, 3) := by decide +kernel
theorem dX11_looks_19 : decode cX11_looks 19 = .ok (.aload_n 0, 1) := by decide +kernel
theorem dX11_looks_20 : decode cX11_looks 20 = .ok (.iload_n 2, 1) := by decide +kernel
theorem dX11_looks_21 : decode cX11_looks 21 = .ok (.invokevirtual 276, 3) := by decide +kernel
theorem dX11_looks_24 : decode cX11_looks 24 = .ok (.ifCond .ne 6, 3) := by decide +kernel
theorem dX11_looks_27 : decode cX11_looks 27 = .ok (.goto 117, 3) := by decide +kernel
theorem dX11_looks_30 : decode cX11_looks 30 = .ok (.aload_n 0, 1) := by decide +kernel
theorem dX11_looks_31 : decode cX11_looks 31 = .ok (.iload_n 1, 1) := by decide +kernel
theorem dX11_looks_32 : decode cX11_looks 32 = .ok (.aload_n 0, 1) := by decide +kernel
theorem dX11_looks_33 : decode cX11_looks 33 = .ok (.getfield 258, 3) := by decide +kernel
theorem dX11_looks_36 : decode cX11_looks 36 = .ok (.aload_n 0, 1) := by decide +kernel
theorem dX11_looks_37 : decode cX11_looks 37 = .ok (.getfield 261, 3) := by decide +kernel
theorem dX11_looks_40 : decode cX11_looks 40 = .ok (.aload_n 0, 1) := by decide +kernel
theorem dX11_looks_41 : decode cX11_looks 41 = .ok (.getfield 264, 3) := by decide +kernel
theorem dX11_looks_44 : decode cX11_looks 44 = .ok (.invokevirtual 235, 3) := by decide +kernel
theorem dX11_looks_47 : decode cX11_looks 47 = .ok (.lstore 6, 2) := by decide +kernel
theorem dX11_looks_49 : decode cX11_looks 49 = .ok (.aload_n 0, 1) := by decide +kernel
theorem dX11_looks_50 : decode cX11_looks 50 = .ok (.getfield 267, 3) := by decide +kernel
theorem dX11_looks_53 : decode cX11_looks 53 = .ok (.ifCond .eq 13, 3) := by decide +kernel
theorem dX11_looks_56 : decode cX11_looks 56 = .ok (.lload 6, 2) := by decide +kernel
theorem dX11_looks_58 : decode cX11_looks 58 = .ok (.aload_n 0, 1) := by decide +kernel
theorem dX11_looks_59 : decode cX11_looks 59 = .ok (.getfield 279, 3) := by decide +kernel
theorem dX11_looks_62 : decode cX11_looks 62 = .ok (.lcmp, 1) := by decide +kernel
theorem dX11_looks_63 : decode cX11_looks 63 = .ok (.ifCond .ge 17, 3) := by decide +kernel
theorem dX11_looks_66 : decode cX11_looks 66 = .ok (.aload_n 0, 1) := by decide +kernel
theorem dX11_looks_67 : decode cX11_looks 67 = .ok (.lload 6, 2) := by decide +kernel
theorem dX11_looks_69 : decode cX11_looks 69 = .ok (.putfield 279, 3) := by decide +kernel
theorem dX11_looks_72 : decode cX11_looks 72 = .ok (.aload_n 0, 1) := by decide +kernel
theorem dX11_looks_73 : decode cX11_looks 73 = .ok (.aload_n 0, 1) := by decide +kernel
theorem dX11_looks_74 : decode cX11_looks 74 = .ok (.getfield 267, 3) := by decide +kernel
theorem dX11_looks_77 : decode cX11_looks 77 = .ok (.putfield 283, 3) := by decide +kernel
theorem dX11_looks_80 : decode cX11_looks 80 = .ok (.aload_n 0, 1) := by decide +kernel
theorem dX11_looks_81 : decode cX11_looks 81 = .ok (.dup, 1) := by decide +kernel
theorem dX11_looks_82 : decode cX11_looks 82 = .ok (.getfield 270, 3) := by decide +kernel
theorem dX11_looks_85 : decode cX11_looks 85 = .ok (.lload 6, 2) := by decide +kernel
theorem dX11_looks_87 : decode cX11_looks 87 = .ok (.lconst 0, 1) := by decide +kernel
theorem dX11_looks_88 : decode cX11_looks 88 = .ok (.lcmp, 1) := by decide +kernel
theorem dX11_looks_89 : decode cX11_looks 89 = .ok (.ifCond .le 7, 3) := by decide +kernel
theorem dX11_looks_92 : decode cX11_looks 92 = .ok (.iconst 1, 1) := by decide +kernel
theorem dX11_looks_93 : decode cX11_looks 93 = .ok (.goto 4, 3) := by decide +kernel
theorem dX11_looks_96 : decode cX11_looks 96 = .ok (.iconst 0, 1) := by decide +kernel
theorem dX11_looks_97 : decode cX11_looks 97 = .ok (.iadd, 1) := by decide +kernel
theorem dX11_looks_98 : decode cX11_looks 98 = .ok (.putfield 270, 3) := by decide +kernel
theorem dX11_looks_101 : decode cX11_looks 101 = .ok (.iload 5, 2) := by decide +kernel
theorem dX11_looks_103 : decode cX11_looks 103 = .ok (.ifCond .ge 31, 3) := by decide +kernel
theorem dX11_looks_106 : decode cX11_looks 106 = .ok (.iload 4, 2) := by decide +kernel
theorem dX11_looks_108 : decode cX11_looks 108 = .ok (.ifCond .ne 13, 3) := by decide +kernel
theorem dX11_looks_111 : decode cX11_looks 111 = .ok (.lload 6, 2) := by decide +kernel
theorem dX11_looks_113 : decode cX11_looks 113 = .ok (.lconst 0, 1) := by decide +kernel
theorem dX11_looks_114 : decode cX11_looks 114 = .ok (.lcmp, 1) := by decide +kernel
theorem dX11_looks_115 : decode cX11_looks 115 = .ok (.ifCond .ge 19, 3) := by decide +kernel
theorem dX11_looks_118 : decode cX11_looks 118 = .ok (.goto 10, 3) := by decide +kernel
theorem dX11_looks_121 : decode cX11_looks 121 = .ok (.lload 6, 2) := by decide +kernel
theorem dX11_looks_123 : decode cX11_looks 123 = .ok (.lconst 0, 1) := by decide +kernel
theorem dX11_looks_124 : decode cX11_looks 124 = .ok (.lcmp, 1) := by decide +kernel
theorem dX11_looks_125 : decode cX11_looks 125 = .ok (.ifCond .gt 9, 3) := by decide +kernel
theorem dX11_looks_128 : decode cX11_looks 128 = .ok (.aload_n 0, 1) := by decide +kernel
theorem dX11_looks_129 : decode cX11_looks 129 = .ok (.getfield 267, 3) := by decide +kernel
theorem dX11_looks_132 : decode cX11_looks 132 = .ok (.istore 5, 2) := by decide +kernel
theorem dX11_looks_134 : decode cX11_looks 134 = .ok (.aload_n 0, 1) := by decide +kernel
theorem dX11_looks_135 : decode cX11_looks 135 = .ok (.dup, 1) := by decide +kernel
theorem dX11_looks_136 : decode cX11_looks 136 = .ok (.getfield 267, 3) := by decide +kernel
theorem dX11_looks_139 : decode cX11_looks 139 = .ok (.iconst 1, 1) := by decide +kernel
theorem dX11_looks_140 : decode cX11_looks 140 = .ok (.iadd, 1) := by decide +kernel
theorem dX11_looks_141 : decode cX11_looks 141 = .ok (.putfield 267, 3) := by decide +kernel
theorem dX11_looks_144 : decode cX11_looks 144 = .ok (.aload_n 0, 1) := by decide +kernel
theorem dX11_looks_145 : decode cX11_looks 145 = .ok (.iload_n 3, 1) := by decide +kernel
theorem dX11_looks_146 : decode cX11_looks 146 = .ok (.invokevirtual 286, 3) := by decide +kernel
theorem dX11_looks_149 : decode cX11_looks 149 = .ok (.ifCond .ne (-130), 3) := by decide +kernel
theorem dX11_looks_152 : decode cX11_looks 152 = .ok (.iload 5, 2) := by decide +kernel
theorem dX11_looks_154 : decode cX11_looks 154 = .ok (.ireturn, 1) := by decide +kernel
theorem dX11_failsAt_0 : decode cX11_failsAt 0 = .ok (.iconst 1, 1) := by decide +kernel
theorem dX11_failsAt_1 : decode cX11_failsAt 1 = .ok (.istore 5, 2) := by decide +kernel
theorem dX11_failsAt_3 : decode cX11_failsAt 3 = .ok (.iload 5, 2) := by decide +kernel
theorem dX11_failsAt_5 : decode cX11_failsAt 5 = .ok (.bipush 12, 2) := by decide +kernel
theorem dX11_failsAt_7 : decode cX11_failsAt 7 = .ok (.if_icmp .gt 38, 3) := by decide +kernel
theorem dX11_failsAt_10 : decode cX11_failsAt 10 = .ok (.aload_n 0, 1) := by decide +kernel
theorem dX11_failsAt_11 : decode cX11_failsAt 11 = .ok (.iload_n 1, 1) := by decide +kernel
theorem dX11_failsAt_12 : decode cX11_failsAt 12 = .ok (.iload_n 2, 1) := by decide +kernel
theorem dX11_failsAt_13 : decode cX11_failsAt 13 = .ok (.iload 5, 2) := by decide +kernel
theorem dX11_failsAt_15 : decode cX11_failsAt 15 = .ok (.iload_n 3, 1) := by decide +kernel
theorem dX11_failsAt_16 : decode cX11_failsAt 16 = .ok (.invokevirtual 289, 3) := by decide +kernel
theorem dX11_failsAt_19 : decode cX11_failsAt 19 = .ok (.istore 6, 2) := by decide +kernel
theorem dX11_failsAt_21 : decode cX11_failsAt 21 = .ok (.iload 6, 2) := by decide +kernel
theorem dX11_failsAt_23 : decode cX11_failsAt 23 = .ok (.ifCond .lt 16, 3) := by decide +kernel
theorem dX11_failsAt_26 : decode cX11_failsAt 26 = .ok (.iload 4, 2) := by decide +kernel
theorem dX11_failsAt_28 : decode cX11_failsAt 28 = .ok (.ifCond .ne 8, 3) := by decide +kernel
theorem dX11_failsAt_31 : decode cX11_failsAt 31 = .ok (.iload 5, 2) := by decide +kernel
theorem dX11_failsAt_33 : decode cX11_failsAt 33 = .ok (.goto 5, 3) := by decide +kernel
theorem dX11_failsAt_36 : decode cX11_failsAt 36 = .ok (.iload 6, 2) := by decide +kernel
theorem dX11_failsAt_38 : decode cX11_failsAt 38 = .ok (.ireturn, 1) := by decide +kernel
theorem dX11_failsAt_39 : decode cX11_failsAt 39 = .ok (.iinc 5 1, 3) := by decide +kernel
theorem dX11_failsAt_42 : decode cX11_failsAt 42 = .ok (.goto (-39), 3) := by decide +kernel
theorem dX11_failsAt_45 : decode cX11_failsAt 45 = .ok (.bipush (-9), 2) := by decide +kernel
theorem dX11_failsAt_47 : decode cX11_failsAt 47 = .ok (.ireturn, 1) := by decide +kernel
theorem dX11_failing_0 : decode cX11_failing 0 = .ok (.aload_n 0, 1) := by decide +kernel
theorem dX11_failing_1 : decode cX11_failing 1 = .ok (.iload_n 1, 1) := by decide +kernel
theorem dX11_failing_2 : decode cX11_failing 2 = .ok (.iload_n 2, 1) := by decide +kernel
theorem dX11_failing_3 : decode cX11_failing 3 = .ok (.invokevirtual 246, 3) := by decide +kernel
theorem dX11_failing_6 : decode cX11_failing 6 = .ok (.ifCond .eq 7, 3) := by decide +kernel
theorem dX11_failing_9 : decode cX11_failing 9 = .ok (.iconst (-1), 1) := by decide +kernel
theorem dX11_failing_10 : decode cX11_failing 10 = .ok (.goto 26, 3) := by decide +kernel
theorem dX11_failing_13 : decode cX11_failing 13 = .ok (.iload_n 3, 1) := by decide +kernel
theorem dX11_failing_14 : decode cX11_failing 14 = .ok (.invokestatic 249, 3) := by decide +kernel
theorem dX11_failing_17 : decode cX11_failing 17 = .ok (.ifCond .eq 13, 3) := by decide +kernel
theorem dX11_failing_20 : decode cX11_failing 20 = .ok (.iload 4, 2) := by decide +kernel
theorem dX11_failing_22 : decode cX11_failing 22 = .ok (.iconst 0, 1) := by decide +kernel
theorem dX11_failing_23 : decode cX11_failing 23 = .ok (.iconst 1, 1) := by decide +kernel
theorem dX11_failing_24 : decode cX11_failing 24 = .ok (.invokestatic 98, 3) := by decide +kernel
theorem dX11_failing_27 : decode cX11_failing 27 = .ok (.ifCond .ne 8, 3) := by decide +kernel
theorem dX11_failing_30 : decode cX11_failing 30 = .ok (.bipush (-2), 2) := by decide +kernel
theorem dX11_failing_32 : decode cX11_failing 32 = .ok (.goto 4, 3) := by decide +kernel
theorem dX11_failing_35 : decode cX11_failing 35 = .ok (.iconst 0, 1) := by decide +kernel
theorem dX11_failing_36 : decode cX11_failing 36 = .ok (.istore 5, 2) := by decide +kernel
theorem dX11_failing_38 : decode cX11_failing 38 = .ok (.iload 5, 2) := by decide +kernel
theorem dX11_failing_40 : decode cX11_failing 40 = .ok (.ifCond .eq 12, 3) := by decide +kernel
theorem dX11_failing_43 : decode cX11_failing 43 = .ok (.aload_n 0, 1) := by decide +kernel
theorem dX11_failing_44 : decode cX11_failing 44 = .ok (.iload 5, 2) := by decide +kernel
theorem dX11_failing_46 : decode cX11_failing 46 = .ok (.invokevirtual 8, 3) := by decide +kernel
theorem dX11_failing_49 : decode cX11_failing 49 = .ok (.goto 12, 3) := by decide +kernel
theorem dX11_failing_52 : decode cX11_failing 52 = .ok (.aload_n 0, 1) := by decide +kernel
theorem dX11_failing_53 : decode cX11_failing 53 = .ok (.iload_n 1, 1) := by decide +kernel
theorem dX11_failing_54 : decode cX11_failing 54 = .ok (.iload_n 2, 1) := by decide +kernel
theorem dX11_failing_55 : decode cX11_failing 55 = .ok (.iload_n 3, 1) := by decide +kernel
theorem dX11_failing_56 : decode cX11_failing 56 = .ok (.iload 4, 2) := by decide +kernel
theorem dX11_failing_58 : decode cX11_failing 58 = .ok (.invokevirtual 293, 3) := by decide +kernel
theorem dX11_failing_61 : decode cX11_failing 61 = .ok (.ireturn, 1) := by decide +kernel
theorem dX11_notLooked_0 : decode cX11_notLooked 0 = .ok (.aload_n 0, 1) := by decide +kernel
theorem dX11_notLooked_1 : decode cX11_notLooked 1 = .ok (.iload_n 1, 1) := by decide +kernel
theorem dX11_notLooked_2 : decode cX11_notLooked 2 = .ok (.iload_n 2, 1) := by decide +kernel
theorem dX11_notLooked_3 : decode cX11_notLooked 3 = .ok (.invokevirtual 246, 3) := by decide +kernel
theorem dX11_notLooked_6 : decode cX11_notLooked 6 = .ok (.istore 5, 2) := by decide +kernel
theorem dX11_notLooked_8 : decode cX11_notLooked 8 = .ok (.iload 5, 2) := by decide +kernel
theorem dX11_notLooked_10 : decode cX11_notLooked 10 = .ok (.ifCond .ne 12, 3) := by decide +kernel
theorem dX11_notLooked_13 : decode cX11_notLooked 13 = .ok (.iload_n 3, 1) := by decide +kernel
theorem dX11_notLooked_14 : decode cX11_notLooked 14 = .ok (.iconst 1, 1) := by decide +kernel
theorem dX11_notLooked_15 : decode cX11_notLooked 15 = .ok (.bipush 12, 2) := by decide +kernel
theorem dX11_notLooked_17 : decode cX11_notLooked 17 = .ok (.invokestatic 154, 3) := by decide +kernel
theorem dX11_notLooked_20 : decode cX11_notLooked 20 = .ok (.istore 5, 2) := by decide +kernel
theorem dX11_notLooked_22 : decode cX11_notLooked 22 = .ok (.iload 5, 2) := by decide +kernel
theorem dX11_notLooked_24 : decode cX11_notLooked 24 = .ok (.ifCond .eq 8, 3) := by decide +kernel
theorem dX11_notLooked_27 : decode cX11_notLooked 27 = .ok (.iload 5, 2) := by decide +kernel
theorem dX11_notLooked_29 : decode cX11_notLooked 29 = .ok (.goto 19, 3) := by decide +kernel
theorem dX11_notLooked_32 : decode cX11_notLooked 32 = .ok (.iload 4, 2) := by decide +kernel
theorem dX11_notLooked_34 : decode cX11_notLooked 34 = .ok (.iconst 0, 1) := by decide +kernel
theorem dX11_notLooked_35 : decode cX11_notLooked 35 = .ok (.iconst 1, 1) := by decide +kernel
theorem dX11_notLooked_36 : decode cX11_notLooked 36 = .ok (.invokestatic 98, 3) := by decide +kernel
theorem dX11_notLooked_39 : decode cX11_notLooked 39 = .ok (.ifCond .eq 7, 3) := by decide +kernel
theorem dX11_notLooked_42 : decode cX11_notLooked 42 = .ok (.iconst 0, 1) := by decide +kernel
theorem dX11_notLooked_43 : decode cX11_notLooked 43 = .ok (.goto 5, 3) := by decide +kernel
theorem dX11_notLooked_46 : decode cX11_notLooked 46 = .ok (.bipush (-2), 2) := by decide +kernel
theorem dX11_notLooked_48 : decode cX11_notLooked 48 = .ok (.ireturn, 1) := by decide +kernel
theorem dX11_lowest_0 : decode cX11_lowest 0 = .ok (.aload_n 0, 1) := by decide +kernel
theorem dX11_lowest_1 : decode cX11_lowest 1 = .ok (.iload_n 1, 1) := by decide +kernel
theorem dX11_lowest_2 : decode cX11_lowest 2 = .ok (.iload_n 2, 1) := by decide +kernel
theorem dX11_lowest_3 : decode cX11_lowest 3 = .ok (.iload_n 3, 1) := by decide +kernel
theorem dX11_lowest_4 : decode cX11_lowest 4 = .ok (.iload 4, 2) := by decide +kernel
theorem dX11_lowest_6 : decode cX11_lowest 6 = .ok (.invokevirtual 296, 3) := by decide +kernel
theorem dX11_lowest_9 : decode cX11_lowest 9 = .ok (.istore 5, 2) := by decide +kernel
theorem dX11_lowest_11 : decode cX11_lowest 11 = .ok (.iload 5, 2) := by decide +kernel
theorem dX11_lowest_13 : decode cX11_lowest 13 = .ok (.ifCond .eq 10, 3) := by decide +kernel
theorem dX11_lowest_16 : decode cX11_lowest 16 = .ok (.aload_n 0, 1) := by decide +kernel
theorem dX11_lowest_17 : decode cX11_lowest 17 = .ok (.iload 5, 2) := by decide +kernel
theorem dX11_lowest_19 : decode cX11_lowest 19 = .ok (.invokevirtual 231, 3) := by decide +kernel
theorem dX11_lowest_22 : decode cX11_lowest 22 = .ok (.lreturn, 1) := by decide +kernel
theorem dX11_lowest_23 : decode cX11_lowest 23 = .ok (.aload_n 0, 1) := by decide +kernel
theorem dX11_lowest_24 : decode cX11_lowest 24 = .ok (.iload_n 1, 1) := by decide +kernel
theorem dX11_lowest_25 : decode cX11_lowest 25 = .ok (.iload_n 2, 1) := by decide +kernel
theorem dX11_lowest_26 : decode cX11_lowest 26 = .ok (.iload_n 3, 1) := by decide +kernel
theorem dX11_lowest_27 : decode cX11_lowest 27 = .ok (.iconst 0, 1) := by decide +kernel
theorem dX11_lowest_28 : decode cX11_lowest 28 = .ok (.invokevirtual 289, 3) := by decide +kernel
theorem dX11_lowest_31 : decode cX11_lowest 31 = .ok (.pop, 1) := by decide +kernel
theorem dX11_lowest_32 : decode cX11_lowest 32 = .ok (.iload 4, 2) := by decide +kernel
theorem dX11_lowest_34 : decode cX11_lowest 34 = .ok (.ifCond .ne 10, 3) := by decide +kernel
theorem dX11_lowest_37 : decode cX11_lowest 37 = .ok (.aload_n 0, 1) := by decide +kernel
theorem dX11_lowest_38 : decode cX11_lowest 38 = .ok (.getfield 279, 3) := by decide +kernel
theorem dX11_lowest_41 : decode cX11_lowest 41 = .ok (.goto 8, 3) := by decide +kernel
theorem dX11_lowest_44 : decode cX11_lowest 44 = .ok (.aload_n 0, 1) := by decide +kernel
theorem dX11_lowest_45 : decode cX11_lowest 45 = .ok (.getfield 283, 3) := by decide +kernel
theorem dX11_lowest_48 : decode cX11_lowest 48 = .ok (.i2l, 1) := by decide +kernel
theorem dX11_lowest_49 : decode cX11_lowest 49 = .ok (.lreturn, 1) := by decide +kernel
theorem dX11_divisor_0 : decode cX11_divisor 0 = .ok (.lload_n 0, 1) := by decide +kernel
theorem dX11_divisor_1 : decode cX11_divisor 1 = .ok (.lconst 0, 1) := by decide +kernel
theorem dX11_divisor_2 : decode cX11_divisor 2 = .ok (.lcmp, 1) := by decide +kernel
theorem dX11_divisor_3 : decode cX11_divisor 3 = .ok (.ifCond .ge 8, 3) := by decide +kernel
theorem dX11_divisor_6 : decode cX11_divisor 6 = .ok (.lload_n 0, 1) := by decide +kernel
theorem dX11_divisor_7 : decode cX11_divisor 7 = .ok (.lneg, 1) := by decide +kernel
theorem dX11_divisor_8 : decode cX11_divisor 8 = .ok (.goto 4, 3) := by decide +kernel
theorem dX11_divisor_11 : decode cX11_divisor 11 = .ok (.lload_n 0, 1) := by decide +kernel
theorem dX11_divisor_12 : decode cX11_divisor 12 = .ok (.lstore 4, 2) := by decide +kernel
theorem dX11_divisor_14 : decode cX11_divisor 14 = .ok (.lload_n 2, 1) := by decide +kernel
theorem dX11_divisor_15 : decode cX11_divisor 15 = .ok (.lconst 0, 1) := by decide +kernel
theorem dX11_divisor_16 : decode cX11_divisor 16 = .ok (.lcmp, 1) := by decide +kernel
theorem dX11_divisor_17 : decode cX11_divisor 17 = .ok (.ifCond .ge 8, 3) := by decide +kernel
theorem dX11_divisor_20 : decode cX11_divisor 20 = .ok (.lload_n 2, 1) := by decide +kernel
theorem dX11_divisor_21 : decode cX11_divisor 21 = .ok (.lneg, 1) := by decide +kernel
theorem dX11_divisor_22 : decode cX11_divisor 22 = .ok (.goto 4, 3) := by decide +kernel
theorem dX11_divisor_25 : decode cX11_divisor 25 = .ok (.lload_n 2, 1) := by decide +kernel
theorem dX11_divisor_26 : decode cX11_divisor 26 = .ok (.lstore 6, 2) := by decide +kernel
theorem dX11_divisor_28 : decode cX11_divisor 28 = .ok (.lload 6, 2) := by decide +kernel
theorem dX11_divisor_30 : decode cX11_divisor 30 = .ok (.lconst 0, 1) := by decide +kernel
theorem dX11_divisor_31 : decode cX11_divisor 31 = .ok (.lcmp, 1) := by decide +kernel
theorem dX11_divisor_32 : decode cX11_divisor 32 = .ok (.ifCond .eq 21, 3) := by decide +kernel
theorem dX11_divisor_35 : decode cX11_divisor 35 = .ok (.lload 4, 2) := by decide +kernel
theorem dX11_divisor_37 : decode cX11_divisor 37 = .ok (.lload 6, 2) := by decide +kernel
theorem dX11_divisor_39 : decode cX11_divisor 39 = .ok (.lrem, 1) := by decide +kernel
theorem dX11_divisor_40 : decode cX11_divisor 40 = .ok (.lstore 8, 2) := by decide +kernel
theorem dX11_divisor_42 : decode cX11_divisor 42 = .ok (.lload 6, 2) := by decide +kernel
theorem dX11_divisor_44 : decode cX11_divisor 44 = .ok (.lstore 4, 2) := by decide +kernel
theorem dX11_divisor_46 : decode cX11_divisor 46 = .ok (.lload 8, 2) := by decide +kernel
theorem dX11_divisor_48 : decode cX11_divisor 48 = .ok (.lstore 6, 2) := by decide +kernel
theorem dX11_divisor_50 : decode cX11_divisor 50 = .ok (.goto (-22), 3) := by decide +kernel
theorem dX11_divisor_53 : decode cX11_divisor 53 = .ok (.lload 4, 2) := by decide +kernel
theorem dX11_divisor_55 : decode cX11_divisor 55 = .ok (.lreturn, 1) := by decide +kernel
theorem dX11_partOf_0 : decode cX11_partOf 0 = .ok (.lload_n 2, 1) := by decide +kernel
theorem dX11_partOf_1 : decode cX11_partOf 1 = .ok (.lconst 0, 1) := by decide +kernel
theorem dX11_partOf_2 : decode cX11_partOf 2 = .ok (.lcmp, 1) := by decide +kernel
theorem dX11_partOf_3 : decode cX11_partOf 3 = .ok (.ifCond .ge 12, 3) := by decide +kernel
theorem dX11_partOf_6 : decode cX11_partOf 6 = .ok (.lload_n 0, 1) := by decide +kernel
theorem dX11_partOf_7 : decode cX11_partOf 7 = .ok (.lload_n 2, 1) := by decide +kernel
theorem dX11_partOf_8 : decode cX11_partOf 8 = .ok (.invokestatic 299, 3) := by decide +kernel
theorem dX11_partOf_11 : decode cX11_partOf 11 = .ok (.lneg, 1) := by decide +kernel
theorem dX11_partOf_12 : decode cX11_partOf 12 = .ok (.goto 8, 3) := by decide +kernel
theorem dX11_partOf_15 : decode cX11_partOf 15 = .ok (.lload_n 0, 1) := by decide +kernel
theorem dX11_partOf_16 : decode cX11_partOf 16 = .ok (.lload_n 2, 1) := by decide +kernel
theorem dX11_partOf_17 : decode cX11_partOf 17 = .ok (.invokestatic 299, 3) := by decide +kernel
theorem dX11_partOf_20 : decode cX11_partOf 20 = .ok (.lstore 5, 2) := by decide +kernel
theorem dX11_partOf_22 : decode cX11_partOf 22 = .ok (.iload 4, 2) := by decide +kernel
theorem dX11_partOf_24 : decode cX11_partOf 24 = .ok (.ifCond .ne 7, 3) := by decide +kernel
theorem dX11_partOf_27 : decode cX11_partOf 27 = .ok (.lload_n 0, 1) := by decide +kernel
theorem dX11_partOf_28 : decode cX11_partOf 28 = .ok (.goto 4, 3) := by decide +kernel
theorem dX11_partOf_31 : decode cX11_partOf 31 = .ok (.lload_n 2, 1) := by decide +kernel
theorem dX11_partOf_32 : decode cX11_partOf 32 = .ok (.lload 5, 2) := by decide +kernel
theorem dX11_partOf_34 : decode cX11_partOf 34 = .ok (.ldiv, 1) := by decide +kernel
theorem dX11_partOf_35 : decode cX11_partOf 35 = .ok (.lreturn, 1) := by decide +kernel
theorem dX11_share_0 : decode cX11_share 0 = .ok (.aload_n 0, 1) := by decide +kernel
theorem dX11_share_1 : decode cX11_share 1 = .ok (.iload_n 1, 1) := by decide +kernel
theorem dX11_share_2 : decode cX11_share 2 = .ok (.iload_n 2, 1) := by decide +kernel
theorem dX11_share_3 : decode cX11_share 3 = .ok (.iload_n 3, 1) := by decide +kernel
theorem dX11_share_4 : decode cX11_share 4 = .ok (.iload 4, 2) := by decide +kernel
theorem dX11_share_6 : decode cX11_share 6 = .ok (.invokevirtual 296, 3) := by decide +kernel
theorem dX11_share_9 : decode cX11_share 9 = .ok (.istore 5, 2) := by decide +kernel
theorem dX11_share_11 : decode cX11_share 11 = .ok (.iload 5, 2) := by decide +kernel
theorem dX11_share_13 : decode cX11_share 13 = .ok (.ifCond .eq 10, 3) := by decide +kernel
theorem dX11_share_16 : decode cX11_share 16 = .ok (.aload_n 0, 1) := by decide +kernel
theorem dX11_share_17 : decode cX11_share 17 = .ok (.iload 5, 2) := by decide +kernel
theorem dX11_share_19 : decode cX11_share 19 = .ok (.invokevirtual 231, 3) := by decide +kernel
theorem dX11_share_22 : decode cX11_share 22 = .ok (.lreturn, 1) := by decide +kernel
theorem dX11_share_23 : decode cX11_share 23 = .ok (.aload_n 0, 1) := by decide +kernel
theorem dX11_share_24 : decode cX11_share 24 = .ok (.iload_n 1, 1) := by decide +kernel
theorem dX11_share_25 : decode cX11_share 25 = .ok (.iload_n 2, 1) := by decide +kernel
theorem dX11_share_26 : decode cX11_share 26 = .ok (.iload_n 3, 1) := by decide +kernel
theorem dX11_share_27 : decode cX11_share 27 = .ok (.iconst 0, 1) := by decide +kernel
theorem dX11_share_28 : decode cX11_share 28 = .ok (.invokevirtual 289, 3) := by decide +kernel
theorem dX11_share_31 : decode cX11_share 31 = .ok (.pop, 1) := by decide +kernel
theorem dX11_share_32 : decode cX11_share 32 = .ok (.aload_n 0, 1) := by decide +kernel
theorem dX11_share_33 : decode cX11_share 33 = .ok (.getfield 270, 3) := by decide +kernel
theorem dX11_share_36 : decode cX11_share 36 = .ok (.i2l, 1) := by decide +kernel
theorem dX11_share_37 : decode cX11_share 37 = .ok (.aload_n 0, 1) := by decide +kernel
theorem dX11_share_38 : decode cX11_share 38 = .ok (.getfield 267, 3) := by decide +kernel
theorem dX11_share_41 : decode cX11_share 41 = .ok (.i2l, 1) := by decide +kernel
theorem dX11_share_42 : decode cX11_share 42 = .ok (.iload 4, 2) := by decide +kernel
theorem dX11_share_44 : decode cX11_share 44 = .ok (.invokestatic 303, 3) := by decide +kernel
theorem dX11_share_47 : decode cX11_share 47 = .ok (.lreturn, 1) := by decide +kernel
theorem dX11_proof_0 : decode cX11_proof 0 = .ok (.aload_n 0, 1) := by decide +kernel
theorem dX11_proof_1 : decode cX11_proof 1 = .ok (.iload_n 1, 1) := by decide +kernel
theorem dX11_proof_2 : decode cX11_proof 2 = .ok (.iload_n 2, 1) := by decide +kernel
theorem dX11_proof_3 : decode cX11_proof 3 = .ok (.invokevirtual 246, 3) := by decide +kernel
theorem dX11_proof_6 : decode cX11_proof 6 = .ok (.ifCond .eq 9, 3) := by decide +kernel
theorem dX11_proof_9 : decode cX11_proof 9 = .ok (.aload_n 0, 1) := by decide +kernel
theorem dX11_proof_10 : decode cX11_proof 10 = .ok (.iconst (-1), 1) := by decide +kernel
theorem dX11_proof_11 : decode cX11_proof 11 = .ok (.invokevirtual 8, 3) := by decide +kernel
theorem dX11_proof_14 : decode cX11_proof 14 = .ok (.ireturn, 1) := by decide +kernel
theorem dX11_proof_15 : decode cX11_proof 15 = .ok (.aload_n 0, 1) := by decide +kernel
theorem dX11_proof_16 : decode cX11_proof 16 = .ok (.iload_n 1, 1) := by decide +kernel
theorem dX11_proof_17 : decode cX11_proof 17 = .ok (.iload_n 2, 1) := by decide +kernel
theorem dX11_proof_18 : decode cX11_proof 18 = .ok (.iconst 1, 1) := by decide +kernel
theorem dX11_proof_19 : decode cX11_proof 19 = .ok (.invokevirtual 255, 3) := by decide +kernel
theorem dX11_proof_22 : decode cX11_proof 22 = .ok (.ifCond .lt 5, 3) := by decide +kernel
theorem dX11_proof_25 : decode cX11_proof 25 = .ok (.iconst 0, 1) := by decide +kernel
theorem dX11_proof_26 : decode cX11_proof 26 = .ok (.ireturn, 1) := by decide +kernel
theorem dX11_proof_27 : decode cX11_proof 27 = .ok (.aload_n 0, 1) := by decide +kernel
theorem dX11_proof_28 : decode cX11_proof 28 = .ok (.iload_n 1, 1) := by decide +kernel
theorem dX11_proof_29 : decode cX11_proof 29 = .ok (.iload_n 2, 1) := by decide +kernel
theorem dX11_proof_30 : decode cX11_proof 30 = .ok (.iconst 0, 1) := by decide +kernel
theorem dX11_proof_31 : decode cX11_proof 31 = .ok (.invokevirtual 255, 3) := by decide +kernel
theorem dX11_proof_34 : decode cX11_proof 34 = .ok (.ifCond .lt 5, 3) := by decide +kernel
theorem dX11_proof_37 : decode cX11_proof 37 = .ok (.iconst 1, 1) := by decide +kernel
theorem dX11_proof_38 : decode cX11_proof 38 = .ok (.ireturn, 1) := by decide +kernel
theorem dX11_proof_39 : decode cX11_proof 39 = .ok (.aload_n 0, 1) := by decide +kernel
theorem dX11_proof_40 : decode cX11_proof 40 = .ok (.iload_n 1, 1) := by decide +kernel
theorem dX11_proof_41 : decode cX11_proof 41 = .ok (.iload_n 2, 1) := by decide +kernel
theorem dX11_proof_42 : decode cX11_proof 42 = .ok (.iconst 0, 1) := by decide +kernel
theorem dX11_proof_43 : decode cX11_proof 43 = .ok (.iconst 0, 1) := by decide +kernel
theorem dX11_proof_44 : decode cX11_proof 44 = .ok (.invokevirtual 293, 3) := by decide +kernel
theorem dX11_proof_47 : decode cX11_proof 47 = .ok (.ifCond .lt 7, 3) := by decide +kernel
theorem dX11_proof_50 : decode cX11_proof 50 = .ok (.iconst 2, 1) := by decide +kernel
theorem dX11_proof_51 : decode cX11_proof 51 = .ok (.goto 4, 3) := by decide +kernel
theorem dX11_proof_54 : decode cX11_proof 54 = .ok (.iconst 3, 1) := by decide +kernel
theorem dX11_proof_55 : decode cX11_proof 55 = .ok (.ireturn, 1) := by decide +kernel
theorem dX11_ways_0 : decode cX11_ways 0 = .ok (.lconst 1, 1) := by decide +kernel
theorem dX11_ways_1 : decode cX11_ways 1 = .ok (.lstore_n 2, 1) := by decide +kernel
theorem dX11_ways_2 : decode cX11_ways 2 = .ok (.iconst 0, 1) := by decide +kernel
theorem dX11_ways_3 : decode cX11_ways 3 = .ok (.istore 4, 2) := by decide +kernel
theorem dX11_ways_5 : decode cX11_ways 5 = .ok (.iload 4, 2) := by decide +kernel
theorem dX11_ways_7 : decode cX11_ways 7 = .ok (.iload_n 1, 1) := by decide +kernel
theorem dX11_ways_8 : decode cX11_ways 8 = .ok (.if_icmp .ge 23, 3) := by decide +kernel
theorem dX11_ways_11 : decode cX11_ways 11 = .ok (.lload_n 2, 1) := by decide +kernel
theorem dX11_ways_12 : decode cX11_ways 12 = .ok (.iload_n 0, 1) := by decide +kernel
theorem dX11_ways_13 : decode cX11_ways 13 = .ok (.iload 4, 2) := by decide +kernel
theorem dX11_ways_15 : decode cX11_ways 15 = .ok (.isub, 1) := by decide +kernel
theorem dX11_ways_16 : decode cX11_ways 16 = .ok (.i2l, 1) := by decide +kernel
theorem dX11_ways_17 : decode cX11_ways 17 = .ok (.lmul, 1) := by decide +kernel
theorem dX11_ways_18 : decode cX11_ways 18 = .ok (.iload 4, 2) := by decide +kernel
theorem dX11_ways_20 : decode cX11_ways 20 = .ok (.iconst 1, 1) := by decide +kernel
theorem dX11_ways_21 : decode cX11_ways 21 = .ok (.iadd, 1) := by decide +kernel
theorem dX11_ways_22 : decode cX11_ways 22 = .ok (.i2l, 1) := by decide +kernel
theorem dX11_ways_23 : decode cX11_ways 23 = .ok (.ldiv, 1) := by decide +kernel
theorem dX11_ways_24 : decode cX11_ways 24 = .ok (.lstore_n 2, 1) := by decide +kernel
theorem dX11_ways_25 : decode cX11_ways 25 = .ok (.iinc 4 1, 3) := by decide +kernel
theorem dX11_ways_28 : decode cX11_ways 28 = .ok (.goto (-23), 3) := by decide +kernel
theorem dX11_ways_31 : decode cX11_ways 31 = .ok (.lload_n 2, 1) := by decide +kernel
theorem dX11_ways_32 : decode cX11_ways 32 = .ok (.lreturn, 1) := by decide +kernel
theorem dX11_wallOf_0 : decode cX11_wallOf 0 = .ok (.lconst 0, 1) := by decide +kernel
theorem dX11_wallOf_1 : decode cX11_wallOf 1 = .ok (.lstore 4, 2) := by decide +kernel
theorem dX11_wallOf_3 : decode cX11_wallOf 3 = .ok (.iconst 0, 1) := by decide +kernel
theorem dX11_wallOf_4 : decode cX11_wallOf 4 = .ok (.istore 6, 2) := by decide +kernel
theorem dX11_wallOf_6 : decode cX11_wallOf 6 = .ok (.iload 6, 2) := by decide +kernel
theorem dX11_wallOf_8 : decode cX11_wallOf 8 = .ok (.aload_n 0, 1) := by decide +kernel
theorem dX11_wallOf_9 : decode cX11_wallOf 9 = .ok (.getfield 82, 3) := by decide +kernel
theorem dX11_wallOf_12 : decode cX11_wallOf 12 = .ok (.iload_n 1, 1) := by decide +kernel
theorem dX11_wallOf_13 : decode cX11_wallOf 13 = .ok (.iaload, 1) := by decide +kernel
theorem dX11_wallOf_14 : decode cX11_wallOf 14 = .ok (.if_icmp .ge 45, 3) := by decide +kernel
theorem dX11_wallOf_17 : decode cX11_wallOf 17 = .ok (.iload 6, 2) := by decide +kernel
theorem dX11_wallOf_19 : decode cX11_wallOf 19 = .ok (.iload_n 3, 1) := by decide +kernel
theorem dX11_wallOf_20 : decode cX11_wallOf 20 = .ok (.if_icmp .gt 39, 3) := by decide +kernel
theorem dX11_wallOf_23 : decode cX11_wallOf 23 = .ok (.lload 4, 2) := by decide +kernel
theorem dX11_wallOf_25 : decode cX11_wallOf 25 = .ok (.aload_n 0, 1) := by decide +kernel
theorem dX11_wallOf_26 : decode cX11_wallOf 26 = .ok (.getfield 85, 3) := by decide +kernel
theorem dX11_wallOf_29 : decode cX11_wallOf 29 = .ok (.bipush 40, 2) := by decide +kernel
theorem dX11_wallOf_31 : decode cX11_wallOf 31 = .ok (.iload_n 1, 1) := by decide +kernel
theorem dX11_wallOf_32 : decode cX11_wallOf 32 = .ok (.imul, 1) := by decide +kernel
theorem dX11_wallOf_33 : decode cX11_wallOf 33 = .ok (.iload 6, 2) := by decide +kernel
theorem dX11_wallOf_35 : decode cX11_wallOf 35 = .ok (.iadd, 1) := by decide +kernel
theorem dX11_wallOf_36 : decode cX11_wallOf 36 = .ok (.iaload, 1) := by decide +kernel
theorem dX11_wallOf_37 : decode cX11_wallOf 37 = .ok (.i2l, 1) := by decide +kernel
theorem dX11_wallOf_38 : decode cX11_wallOf 38 = .ok (.iload_n 2, 1) := by decide +kernel
theorem dX11_wallOf_39 : decode cX11_wallOf 39 = .ok (.iload 6, 2) := by decide +kernel
theorem dX11_wallOf_41 : decode cX11_wallOf 41 = .ok (.isub, 1) := by decide +kernel
theorem dX11_wallOf_42 : decode cX11_wallOf 42 = .ok (.iload_n 3, 1) := by decide +kernel
theorem dX11_wallOf_43 : decode cX11_wallOf 43 = .ok (.iload 6, 2) := by decide +kernel
theorem dX11_wallOf_45 : decode cX11_wallOf 45 = .ok (.isub, 1) := by decide +kernel
theorem dX11_wallOf_46 : decode cX11_wallOf 46 = .ok (.invokestatic 307, 3) := by decide +kernel
theorem dX11_wallOf_49 : decode cX11_wallOf 49 = .ok (.lmul, 1) := by decide +kernel
theorem dX11_wallOf_50 : decode cX11_wallOf 50 = .ok (.ladd, 1) := by decide +kernel
theorem dX11_wallOf_51 : decode cX11_wallOf 51 = .ok (.lstore 4, 2) := by decide +kernel
theorem dX11_wallOf_53 : decode cX11_wallOf 53 = .ok (.iinc 6 1, 3) := by decide +kernel
theorem dX11_wallOf_56 : decode cX11_wallOf 56 = .ok (.goto (-50), 3) := by decide +kernel
theorem dX11_wallOf_59 : decode cX11_wallOf 59 = .ok (.lload 4, 2) := by decide +kernel
theorem dX11_wallOf_61 : decode cX11_wallOf 61 = .ok (.lreturn, 1) := by decide +kernel
theorem dX11_isTold_0 : decode cX11_isTold 0 = .ok (.aload_n 0, 1) := by decide +kernel
theorem dX11_isTold_1 : decode cX11_isTold 1 = .ok (.getfield 82, 3) := by decide +kernel
theorem dX11_isTold_4 : decode cX11_isTold 4 = .ok (.iload_n 1, 1) := by decide +kernel
theorem dX11_isTold_5 : decode cX11_isTold 5 = .ok (.iaload, 1) := by decide +kernel
theorem dX11_isTold_6 : decode cX11_isTold 6 = .ok (.bipush 9, 2) := by decide +kernel
theorem dX11_isTold_8 : decode cX11_isTold 8 = .ok (.if_icmp .gt 7, 3) := by decide +kernel
theorem dX11_isTold_11 : decode cX11_isTold 11 = .ok (.iconst 1, 1) := by decide +kernel
theorem dX11_isTold_12 : decode cX11_isTold 12 = .ok (.goto 4, 3) := by decide +kernel
theorem dX11_isTold_15 : decode cX11_isTold 15 = .ok (.iconst 0, 1) := by decide +kernel
theorem dX11_isTold_16 : decode cX11_isTold 16 = .ok (.istore_n 2, 1) := by decide +kernel
theorem dX11_isTold_17 : decode cX11_isTold 17 = .ok (.iconst 0, 1) := by decide +kernel
theorem dX11_isTold_18 : decode cX11_isTold 18 = .ok (.istore_n 3, 1) := by decide +kernel
theorem dX11_isTold_19 : decode cX11_isTold 19 = .ok (.iload_n 2, 1) := by decide +kernel
theorem dX11_isTold_20 : decode cX11_isTold 20 = .ok (.ifCond .eq 38, 3) := by decide +kernel
theorem dX11_isTold_23 : decode cX11_isTold 23 = .ok (.iload_n 3, 1) := by decide +kernel
theorem dX11_isTold_24 : decode cX11_isTold 24 = .ok (.aload_n 0, 1) := by decide +kernel
theorem dX11_isTold_25 : decode cX11_isTold 25 = .ok (.getfield 82, 3) := by decide +kernel
theorem dX11_isTold_28 : decode cX11_isTold 28 = .ok (.iload_n 1, 1) := by decide +kernel
theorem dX11_isTold_29 : decode cX11_isTold 29 = .ok (.iaload, 1) := by decide +kernel
theorem dX11_isTold_30 : decode cX11_isTold 30 = .ok (.if_icmp .ge 28, 3) := by decide +kernel
theorem dX11_isTold_33 : decode cX11_isTold 33 = .ok (.aload_n 0, 1) := by decide +kernel
theorem dX11_isTold_34 : decode cX11_isTold 34 = .ok (.getfield 85, 3) := by decide +kernel
theorem dX11_isTold_37 : decode cX11_isTold 37 = .ok (.bipush 40, 2) := by decide +kernel
theorem dX11_isTold_39 : decode cX11_isTold 39 = .ok (.iload_n 1, 1) := by decide +kernel
theorem dX11_isTold_40 : decode cX11_isTold 40 = .ok (.imul, 1) := by decide +kernel
theorem dX11_isTold_41 : decode cX11_isTold 41 = .ok (.iload_n 3, 1) := by decide +kernel
theorem dX11_isTold_42 : decode cX11_isTold 42 = .ok (.iadd, 1) := by decide +kernel
theorem dX11_isTold_43 : decode cX11_isTold 43 = .ok (.iaload, 1) := by decide +kernel
theorem dX11_isTold_44 : decode cX11_isTold 44 = .ok (.ldc 215, 2) := by decide +kernel
theorem dX11_isTold_46 : decode cX11_isTold 46 = .ok (.ldc 216, 2) := by decide +kernel
theorem dX11_isTold_48 : decode cX11_isTold 48 = .ok (.invokestatic 98, 3) := by decide +kernel
theorem dX11_isTold_51 : decode cX11_isTold 51 = .ok (.istore_n 2, 1) := by decide +kernel
theorem dX11_isTold_52 : decode cX11_isTold 52 = .ok (.iinc 3 1, 3) := by decide +kernel
theorem dX11_isTold_55 : decode cX11_isTold 55 = .ok (.goto (-36), 3) := by decide +kernel
theorem dX11_isTold_58 : decode cX11_isTold 58 = .ok (.iload_n 2, 1) := by decide +kernel
theorem dX11_isTold_59 : decode cX11_isTold 59 = .ok (.ireturn, 1) := by decide +kernel
theorem dX11_isList_0 : decode cX11_isList 0 = .ok (.iload_n 0, 1) := by decide +kernel
theorem dX11_isList_1 : decode cX11_isList 1 = .ok (.iconst 0, 1) := by decide +kernel
theorem dX11_isList_2 : decode cX11_isList 2 = .ok (.iconst 2, 1) := by decide +kernel
theorem dX11_isList_3 : decode cX11_isList 3 = .ok (.invokestatic 98, 3) := by decide +kernel
theorem dX11_isList_6 : decode cX11_isList 6 = .ok (.ireturn, 1) := by decide +kernel
