theorem dX11_walls_0 : decode cX11_walls 0 = .ok (.iload_n 1, 1) := by decide +kernel
theorem dX11_walls_1 : decode cX11_walls 1 = .ok (.invokestatic 310, 3) := by decide +kernel
theorem dX11_walls_4 : decode cX11_walls 4 = .ok (.ifCond .ne 7, 3) := by decide +kernel
theorem dX11_walls_7 : decode cX11_walls 7 = .ok (.iconst (-1), 1) := by decide +kernel
theorem dX11_walls_8 : decode cX11_walls 8 = .ok (.goto 33, 3) := by decide +kernel
theorem dX11_walls_11 : decode cX11_walls 11 = .ok (.iload_n 2, 1) := by decide +kernel
theorem dX11_walls_12 : decode cX11_walls 12 = .ok (.ifCond .lt 7, 3) := by decide +kernel
theorem dX11_walls_15 : decode cX11_walls 15 = .ok (.iload_n 3, 1) := by decide +kernel
theorem dX11_walls_16 : decode cX11_walls 16 = .ok (.ifCond .ge 8, 3) := by decide +kernel
theorem dX11_walls_19 : decode cX11_walls 19 = .ok (.bipush (-4), 2) := by decide +kernel
theorem dX11_walls_21 : decode cX11_walls 21 = .ok (.goto 20, 3) := by decide +kernel
theorem dX11_walls_24 : decode cX11_walls 24 = .ok (.iload_n 2, 1) := by decide +kernel
theorem dX11_walls_25 : decode cX11_walls 25 = .ok (.bipush 16, 2) := by decide +kernel
theorem dX11_walls_27 : decode cX11_walls 27 = .ok (.if_icmp .gt 8, 3) := by decide +kernel
theorem dX11_walls_30 : decode cX11_walls 30 = .ok (.iload_n 3, 1) := by decide +kernel
theorem dX11_walls_31 : decode cX11_walls 31 = .ok (.iload_n 2, 1) := by decide +kernel
theorem dX11_walls_32 : decode cX11_walls 32 = .ok (.if_icmp .le 8, 3) := by decide +kernel
theorem dX11_walls_35 : decode cX11_walls 35 = .ok (.bipush (-6), 2) := by decide +kernel
theorem dX11_walls_37 : decode cX11_walls 37 = .ok (.goto 4, 3) := by decide +kernel
theorem dX11_walls_40 : decode cX11_walls 40 = .ok (.iconst 0, 1) := by decide +kernel
theorem dX11_walls_41 : decode cX11_walls 41 = .ok (.istore 4, 2) := by decide +kernel
theorem dX11_walls_43 : decode cX11_walls 43 = .ok (.iload 4, 2) := by decide +kernel
theorem dX11_walls_45 : decode cX11_walls 45 = .ok (.ifCond .eq 10, 3) := by decide +kernel
theorem dX11_walls_48 : decode cX11_walls 48 = .ok (.aload_n 0, 1) := by decide +kernel
theorem dX11_walls_49 : decode cX11_walls 49 = .ok (.iload 4, 2) := by decide +kernel
theorem dX11_walls_51 : decode cX11_walls 51 = .ok (.invokevirtual 231, 3) := by decide +kernel
theorem dX11_walls_54 : decode cX11_walls 54 = .ok (.lreturn, 1) := by decide +kernel
theorem dX11_walls_55 : decode cX11_walls 55 = .ok (.aload_n 0, 1) := by decide +kernel
theorem dX11_walls_56 : decode cX11_walls 56 = .ok (.getfield 82, 3) := by decide +kernel
theorem dX11_walls_59 : decode cX11_walls 59 = .ok (.iload_n 1, 1) := by decide +kernel
theorem dX11_walls_60 : decode cX11_walls 60 = .ok (.iaload, 1) := by decide +kernel
theorem dX11_walls_61 : decode cX11_walls 61 = .ok (.ifCond .ge 7, 3) := by decide +kernel
theorem dX11_walls_64 : decode cX11_walls 64 = .ok (.ldc2_w 313, 3) := by decide +kernel
theorem dX11_walls_67 : decode cX11_walls 67 = .ok (.lreturn, 1) := by decide +kernel
theorem dX11_walls_68 : decode cX11_walls 68 = .ok (.aload_n 0, 1) := by decide +kernel
theorem dX11_walls_69 : decode cX11_walls 69 = .ok (.iload_n 1, 1) := by decide +kernel
theorem dX11_walls_70 : decode cX11_walls 70 = .ok (.invokevirtual 315, 3) := by decide +kernel
theorem dX11_walls_73 : decode cX11_walls 73 = .ok (.ifCond .eq 15, 3) := by decide +kernel
theorem dX11_walls_76 : decode cX11_walls 76 = .ok (.iload_n 2, 1) := by decide +kernel
theorem dX11_walls_77 : decode cX11_walls 77 = .ok (.aload_n 0, 1) := by decide +kernel
theorem dX11_walls_78 : decode cX11_walls 78 = .ok (.getfield 82, 3) := by decide +kernel
theorem dX11_walls_81 : decode cX11_walls 81 = .ok (.iload_n 1, 1) := by decide +kernel
theorem dX11_walls_82 : decode cX11_walls 82 = .ok (.iaload, 1) := by decide +kernel
theorem dX11_walls_83 : decode cX11_walls 83 = .ok (.iconst 1, 1) := by decide +kernel
theorem dX11_walls_84 : decode cX11_walls 84 = .ok (.isub, 1) := by decide +kernel
theorem dX11_walls_85 : decode cX11_walls 85 = .ok (.if_icmp .ge 12, 3) := by decide +kernel
theorem dX11_walls_88 : decode cX11_walls 88 = .ok (.aload_n 0, 1) := by decide +kernel
theorem dX11_walls_89 : decode cX11_walls 89 = .ok (.bipush (-3), 2) := by decide +kernel
theorem dX11_walls_91 : decode cX11_walls 91 = .ok (.invokevirtual 231, 3) := by decide +kernel
theorem dX11_walls_94 : decode cX11_walls 94 = .ok (.goto 10, 3) := by decide +kernel
theorem dX11_walls_97 : decode cX11_walls 97 = .ok (.aload_n 0, 1) := by decide +kernel
theorem dX11_walls_98 : decode cX11_walls 98 = .ok (.iload_n 1, 1) := by decide +kernel
theorem dX11_walls_99 : decode cX11_walls 99 = .ok (.iload_n 2, 1) := by decide +kernel
theorem dX11_walls_100 : decode cX11_walls 100 = .ok (.iload_n 3, 1) := by decide +kernel
theorem dX11_walls_101 : decode cX11_walls 101 = .ok (.invokevirtual 318, 3) := by decide +kernel
theorem dX11_walls_104 : decode cX11_walls 104 = .ok (.lreturn, 1) := by decide +kernel
theorem dX11_wallsLeast_0 : decode cX11_wallsLeast 0 = .ok (.iload_n 1, 1) := by decide +kernel
theorem dX11_wallsLeast_1 : decode cX11_wallsLeast 1 = .ok (.invokestatic 310, 3) := by decide +kernel
theorem dX11_wallsLeast_4 : decode cX11_wallsLeast 4 = .ok (.ifCond .ne 7, 3) := by decide +kernel
theorem dX11_wallsLeast_7 : decode cX11_wallsLeast 7 = .ok (.iconst (-1), 1) := by decide +kernel
theorem dX11_wallsLeast_8 : decode cX11_wallsLeast 8 = .ok (.goto 16, 3) := by decide +kernel
theorem dX11_wallsLeast_11 : decode cX11_wallsLeast 11 = .ok (.iload_n 2, 1) := by decide +kernel
theorem dX11_wallsLeast_12 : decode cX11_wallsLeast 12 = .ok (.invokestatic 249, 3) := by decide +kernel
theorem dX11_wallsLeast_15 : decode cX11_wallsLeast 15 = .ok (.ifCond .ne 8, 3) := by decide +kernel
theorem dX11_wallsLeast_18 : decode cX11_wallsLeast 18 = .ok (.bipush (-2), 2) := by decide +kernel
theorem dX11_wallsLeast_20 : decode cX11_wallsLeast 20 = .ok (.goto 4, 3) := by decide +kernel
theorem dX11_wallsLeast_23 : decode cX11_wallsLeast 23 = .ok (.iconst 0, 1) := by decide +kernel
theorem dX11_wallsLeast_24 : decode cX11_wallsLeast 24 = .ok (.istore_n 3, 1) := by decide +kernel
theorem dX11_wallsLeast_25 : decode cX11_wallsLeast 25 = .ok (.iload_n 3, 1) := by decide +kernel
theorem dX11_wallsLeast_26 : decode cX11_wallsLeast 26 = .ok (.ifCond .eq 9, 3) := by decide +kernel
theorem dX11_wallsLeast_29 : decode cX11_wallsLeast 29 = .ok (.aload_n 0, 1) := by decide +kernel
theorem dX11_wallsLeast_30 : decode cX11_wallsLeast 30 = .ok (.iload_n 3, 1) := by decide +kernel
theorem dX11_wallsLeast_31 : decode cX11_wallsLeast 31 = .ok (.invokevirtual 8, 3) := by decide +kernel
theorem dX11_wallsLeast_34 : decode cX11_wallsLeast 34 = .ok (.ireturn, 1) := by decide +kernel
theorem dX11_wallsLeast_35 : decode cX11_wallsLeast 35 = .ok (.aload_n 0, 1) := by decide +kernel
theorem dX11_wallsLeast_36 : decode cX11_wallsLeast 36 = .ok (.getfield 82, 3) := by decide +kernel
theorem dX11_wallsLeast_39 : decode cX11_wallsLeast 39 = .ok (.iload_n 1, 1) := by decide +kernel
theorem dX11_wallsLeast_40 : decode cX11_wallsLeast 40 = .ok (.iaload, 1) := by decide +kernel
theorem dX11_wallsLeast_41 : decode cX11_wallsLeast 41 = .ok (.ifCond .ge 6, 3) := by decide +kernel
theorem dX11_wallsLeast_44 : decode cX11_wallsLeast 44 = .ok (.bipush (-11), 2) := by decide +kernel
theorem dX11_wallsLeast_46 : decode cX11_wallsLeast 46 = .ok (.ireturn, 1) := by decide +kernel
theorem dX11_wallsLeast_47 : decode cX11_wallsLeast 47 = .ok (.aload_n 0, 1) := by decide +kernel
theorem dX11_wallsLeast_48 : decode cX11_wallsLeast 48 = .ok (.iload_n 1, 1) := by decide +kernel
theorem dX11_wallsLeast_49 : decode cX11_wallsLeast 49 = .ok (.invokevirtual 315, 3) := by decide +kernel
theorem dX11_wallsLeast_52 : decode cX11_wallsLeast 52 = .ok (.ifCond .ne 10, 3) := by decide +kernel
theorem dX11_wallsLeast_55 : decode cX11_wallsLeast 55 = .ok (.aload_n 0, 1) := by decide +kernel
theorem dX11_wallsLeast_56 : decode cX11_wallsLeast 56 = .ok (.bipush (-3), 2) := by decide +kernel
theorem dX11_wallsLeast_58 : decode cX11_wallsLeast 58 = .ok (.invokevirtual 8, 3) := by decide +kernel
theorem dX11_wallsLeast_61 : decode cX11_wallsLeast 61 = .ok (.ireturn, 1) := by decide +kernel
theorem dX11_wallsLeast_62 : decode cX11_wallsLeast 62 = .ok (.aload_n 0, 1) := by decide +kernel
theorem dX11_wallsLeast_63 : decode cX11_wallsLeast 63 = .ok (.getfield 82, 3) := by decide +kernel
theorem dX11_wallsLeast_66 : decode cX11_wallsLeast 66 = .ok (.iload_n 1, 1) := by decide +kernel
theorem dX11_wallsLeast_67 : decode cX11_wallsLeast 67 = .ok (.iaload, 1) := by decide +kernel
theorem dX11_wallsLeast_68 : decode cX11_wallsLeast 68 = .ok (.iconst 1, 1) := by decide +kernel
theorem dX11_wallsLeast_69 : decode cX11_wallsLeast 69 = .ok (.if_icmp .ge 7, 3) := by decide +kernel
theorem dX11_wallsLeast_72 : decode cX11_wallsLeast 72 = .ok (.iconst 0, 1) := by decide +kernel
theorem dX11_wallsLeast_73 : decode cX11_wallsLeast 73 = .ok (.goto 11, 3) := by decide +kernel
theorem dX11_wallsLeast_76 : decode cX11_wallsLeast 76 = .ok (.aload_n 0, 1) := by decide +kernel
theorem dX11_wallsLeast_77 : decode cX11_wallsLeast 77 = .ok (.getfield 82, 3) := by decide +kernel
theorem dX11_wallsLeast_80 : decode cX11_wallsLeast 80 = .ok (.iload_n 1, 1) := by decide +kernel
theorem dX11_wallsLeast_81 : decode cX11_wallsLeast 81 = .ok (.iaload, 1) := by decide +kernel
theorem dX11_wallsLeast_82 : decode cX11_wallsLeast 82 = .ok (.iconst 1, 1) := by decide +kernel
theorem dX11_wallsLeast_83 : decode cX11_wallsLeast 83 = .ok (.isub, 1) := by decide +kernel
theorem dX11_wallsLeast_84 : decode cX11_wallsLeast 84 = .ok (.istore 4, 2) := by decide +kernel
theorem dX11_wallsLeast_86 : decode cX11_wallsLeast 86 = .ok (.iconst 0, 1) := by decide +kernel
theorem dX11_wallsLeast_87 : decode cX11_wallsLeast 87 = .ok (.istore 5, 2) := by decide +kernel
theorem dX11_wallsLeast_89 : decode cX11_wallsLeast 89 = .ok (.iload 5, 2) := by decide +kernel
theorem dX11_wallsLeast_91 : decode cX11_wallsLeast 91 = .ok (.ifCond .ne 85, 3) := by decide +kernel
theorem dX11_wallsLeast_94 : decode cX11_wallsLeast 94 = .ok (.iload 4, 2) := by decide +kernel
theorem dX11_wallsLeast_96 : decode cX11_wallsLeast 96 = .ok (.bipush 16, 2) := by decide +kernel
theorem dX11_wallsLeast_98 : decode cX11_wallsLeast 98 = .ok (.if_icmp .gt 78, 3) := by decide +kernel
theorem dX11_wallsLeast_101 : decode cX11_wallsLeast 101 = .ok (.iconst 1, 1) := by decide +kernel
theorem dX11_wallsLeast_102 : decode cX11_wallsLeast 102 = .ok (.istore 5, 2) := by decide +kernel
theorem dX11_wallsLeast_104 : decode cX11_wallsLeast 104 = .ok (.iconst 0, 1) := by decide +kernel
theorem dX11_wallsLeast_105 : decode cX11_wallsLeast 105 = .ok (.istore 6, 2) := by decide +kernel
theorem dX11_wallsLeast_107 : decode cX11_wallsLeast 107 = .ok (.iload 6, 2) := by decide +kernel
theorem dX11_wallsLeast_109 : decode cX11_wallsLeast 109 = .ok (.iload 4, 2) := by decide +kernel
theorem dX11_wallsLeast_111 : decode cX11_wallsLeast 111 = .ok (.if_icmp .gt 59, 3) := by decide +kernel
theorem dX11_wallsLeast_114 : decode cX11_wallsLeast 114 = .ok (.iload 5, 2) := by decide +kernel
theorem dX11_wallsLeast_116 : decode cX11_wallsLeast 116 = .ok (.iload_n 2, 1) := by decide +kernel
theorem dX11_wallsLeast_117 : decode cX11_wallsLeast 117 = .ok (.ifCond .ne 25, 3) := by decide +kernel
theorem dX11_wallsLeast_120 : decode cX11_wallsLeast 120 = .ok (.aload_n 0, 1) := by decide +kernel
theorem dX11_wallsLeast_121 : decode cX11_wallsLeast 121 = .ok (.iload_n 1, 1) := by decide +kernel
theorem dX11_wallsLeast_122 : decode cX11_wallsLeast 122 = .ok (.iload 4, 2) := by decide +kernel
theorem dX11_wallsLeast_124 : decode cX11_wallsLeast 124 = .ok (.iload 6, 2) := by decide +kernel
theorem dX11_wallsLeast_126 : decode cX11_wallsLeast 126 = .ok (.invokevirtual 318, 3) := by decide +kernel
theorem dX11_wallsLeast_129 : decode cX11_wallsLeast 129 = .ok (.lconst 0, 1) := by decide +kernel
theorem dX11_wallsLeast_130 : decode cX11_wallsLeast 130 = .ok (.lcmp, 1) := by decide +kernel
theorem dX11_wallsLeast_131 : decode cX11_wallsLeast 131 = .ok (.ifCond .lt 7, 3) := by decide +kernel
theorem dX11_wallsLeast_134 : decode cX11_wallsLeast 134 = .ok (.iconst 1, 1) := by decide +kernel
theorem dX11_wallsLeast_135 : decode cX11_wallsLeast 135 = .ok (.goto 26, 3) := by decide +kernel
theorem dX11_wallsLeast_138 : decode cX11_wallsLeast 138 = .ok (.iconst 0, 1) := by decide +kernel
theorem dX11_wallsLeast_139 : decode cX11_wallsLeast 139 = .ok (.goto 22, 3) := by decide +kernel
theorem dX11_wallsLeast_142 : decode cX11_wallsLeast 142 = .ok (.aload_n 0, 1) := by decide +kernel
theorem dX11_wallsLeast_143 : decode cX11_wallsLeast 143 = .ok (.iload_n 1, 1) := by decide +kernel
theorem dX11_wallsLeast_144 : decode cX11_wallsLeast 144 = .ok (.iload 4, 2) := by decide +kernel
theorem dX11_wallsLeast_146 : decode cX11_wallsLeast 146 = .ok (.iload 6, 2) := by decide +kernel
theorem dX11_wallsLeast_148 : decode cX11_wallsLeast 148 = .ok (.invokevirtual 318, 3) := by decide +kernel
theorem dX11_wallsLeast_151 : decode cX11_wallsLeast 151 = .ok (.lconst 0, 1) := by decide +kernel
theorem dX11_wallsLeast_152 : decode cX11_wallsLeast 152 = .ok (.lcmp, 1) := by decide +kernel
theorem dX11_wallsLeast_153 : decode cX11_wallsLeast 153 = .ok (.ifCond .le 7, 3) := by decide +kernel
theorem dX11_wallsLeast_156 : decode cX11_wallsLeast 156 = .ok (.iconst 1, 1) := by decide +kernel
theorem dX11_wallsLeast_157 : decode cX11_wallsLeast 157 = .ok (.goto 4, 3) := by decide +kernel
theorem dX11_wallsLeast_160 : decode cX11_wallsLeast 160 = .ok (.iconst 0, 1) := by decide +kernel
theorem dX11_wallsLeast_161 : decode cX11_wallsLeast 161 = .ok (.iand, 1) := by decide +kernel
theorem dX11_wallsLeast_162 : decode cX11_wallsLeast 162 = .ok (.istore 5, 2) := by decide +kernel
theorem dX11_wallsLeast_164 : decode cX11_wallsLeast 164 = .ok (.iinc 6 1, 3) := by decide +kernel
theorem dX11_wallsLeast_167 : decode cX11_wallsLeast 167 = .ok (.goto (-60), 3) := by decide +kernel
theorem dX11_wallsLeast_170 : decode cX11_wallsLeast 170 = .ok (.iinc 4 1, 3) := by decide +kernel
theorem dX11_wallsLeast_173 : decode cX11_wallsLeast 173 = .ok (.goto (-84), 3) := by decide +kernel
theorem dX11_wallsLeast_176 : decode cX11_wallsLeast 176 = .ok (.iload 5, 2) := by decide +kernel
theorem dX11_wallsLeast_178 : decode cX11_wallsLeast 178 = .ok (.ifCond .eq 10, 3) := by decide +kernel
theorem dX11_wallsLeast_181 : decode cX11_wallsLeast 181 = .ok (.iload 4, 2) := by decide +kernel
theorem dX11_wallsLeast_183 : decode cX11_wallsLeast 183 = .ok (.iconst 1, 1) := by decide +kernel
theorem dX11_wallsLeast_184 : decode cX11_wallsLeast 184 = .ok (.isub, 1) := by decide +kernel
theorem dX11_wallsLeast_185 : decode cX11_wallsLeast 185 = .ok (.goto 5, 3) := by decide +kernel
theorem dX11_wallsLeast_188 : decode cX11_wallsLeast 188 = .ok (.bipush (-9), 2) := by decide +kernel
theorem dX11_wallsLeast_190 : decode cX11_wallsLeast 190 = .ok (.ireturn, 1) := by decide +kernel
theorem dX11_laysColumn_0 : decode cX11_laysColumn 0 = .ok (.iconst 0, 1) := by decide +kernel
theorem dX11_laysColumn_1 : decode cX11_laysColumn 1 = .ok (.istore_n 3, 1) := by decide +kernel
theorem dX11_laysColumn_2 : decode cX11_laysColumn 2 = .ok (.iload_n 3, 1) := by decide +kernel
theorem dX11_laysColumn_3 : decode cX11_laysColumn 3 = .ok (.bipush 28, 2) := by decide +kernel
theorem dX11_laysColumn_5 : decode cX11_laysColumn 5 = .ok (.if_icmp .ge 39, 3) := by decide +kernel
theorem dX11_laysColumn_8 : decode cX11_laysColumn 8 = .ok (.aload_n 0, 1) := by decide +kernel
theorem dX11_laysColumn_9 : decode cX11_laysColumn 9 = .ok (.getfield 73, 3) := by decide +kernel
theorem dX11_laysColumn_12 : decode cX11_laysColumn 12 = .ok (.bipush 28, 2) := by decide +kernel
theorem dX11_laysColumn_14 : decode cX11_laysColumn 14 = .ok (.iload_n 1, 1) := by decide +kernel
theorem dX11_laysColumn_15 : decode cX11_laysColumn 15 = .ok (.imul, 1) := by decide +kernel
theorem dX11_laysColumn_16 : decode cX11_laysColumn 16 = .ok (.iload_n 3, 1) := by decide +kernel
theorem dX11_laysColumn_17 : decode cX11_laysColumn 17 = .ok (.iadd, 1) := by decide +kernel
theorem dX11_laysColumn_18 : decode cX11_laysColumn 18 = .ok (.aload_n 0, 1) := by decide +kernel
theorem dX11_laysColumn_19 : decode cX11_laysColumn 19 = .ok (.iload_n 2, 1) := by decide +kernel
theorem dX11_laysColumn_20 : decode cX11_laysColumn 20 = .ok (.iload_n 3, 1) := by decide +kernel
theorem dX11_laysColumn_21 : decode cX11_laysColumn 21 = .ok (.invokevirtual 111, 3) := by decide +kernel
theorem dX11_laysColumn_24 : decode cX11_laysColumn 24 = .ok (.ifCond .eq 12, 3) := by decide +kernel
theorem dX11_laysColumn_27 : decode cX11_laysColumn 27 = .ok (.aload_n 0, 1) := by decide +kernel
theorem dX11_laysColumn_28 : decode cX11_laysColumn 28 = .ok (.iload_n 2, 1) := by decide +kernel
theorem dX11_laysColumn_29 : decode cX11_laysColumn 29 = .ok (.iload_n 3, 1) := by decide +kernel
theorem dX11_laysColumn_30 : decode cX11_laysColumn 30 = .ok (.invokevirtual 115, 3) := by decide +kernel
theorem dX11_laysColumn_33 : decode cX11_laysColumn 33 = .ok (.goto 4, 3) := by decide +kernel
theorem dX11_laysColumn_36 : decode cX11_laysColumn 36 = .ok (.iconst 0, 1) := by decide +kernel
theorem dX11_laysColumn_37 : decode cX11_laysColumn 37 = .ok (.iastore, 1) := by decide +kernel
theorem dX11_laysColumn_38 : decode cX11_laysColumn 38 = .ok (.iinc 3 1, 3) := by decide +kernel
theorem dX11_laysColumn_41 : decode cX11_laysColumn 41 = .ok (.goto (-39), 3) := by decide +kernel
theorem dX11_laysColumn_44 : decode cX11_laysColumn 44 = .ok (.return_, 1) := by decide +kernel
theorem dX11_at_0 : decode cX11_at 0 = .ok (.aload_n 0, 1) := by decide +kernel
theorem dX11_at_1 : decode cX11_at 1 = .ok (.getfield 73, 3) := by decide +kernel
theorem dX11_at_4 : decode cX11_at 4 = .ok (.bipush 28, 2) := by decide +kernel
theorem dX11_at_6 : decode cX11_at 6 = .ok (.iload_n 1, 1) := by decide +kernel
theorem dX11_at_7 : decode cX11_at 7 = .ok (.imul, 1) := by decide +kernel
theorem dX11_at_8 : decode cX11_at 8 = .ok (.iload_n 2, 1) := by decide +kernel
theorem dX11_at_9 : decode cX11_at 9 = .ok (.iadd, 1) := by decide +kernel
theorem dX11_at_10 : decode cX11_at 10 = .ok (.iaload, 1) := by decide +kernel
theorem dX11_at_11 : decode cX11_at 11 = .ok (.i2l, 1) := by decide +kernel
theorem dX11_at_12 : decode cX11_at 12 = .ok (.lreturn, 1) := by decide +kernel
theorem dX11_two_0 : decode cX11_two 0 = .ok (.aload_n 0, 1) := by decide +kernel
theorem dX11_two_1 : decode cX11_two 1 = .ok (.iload_n 1, 1) := by decide +kernel
theorem dX11_two_2 : decode cX11_two 2 = .ok (.iload_n 3, 1) := by decide +kernel
theorem dX11_two_3 : decode cX11_two 3 = .ok (.invokevirtual 322, 3) := by decide +kernel
theorem dX11_two_6 : decode cX11_two 6 = .ok (.aload_n 0, 1) := by decide +kernel
theorem dX11_two_7 : decode cX11_two 7 = .ok (.iload_n 2, 1) := by decide +kernel
theorem dX11_two_8 : decode cX11_two 8 = .ok (.iload 4, 2) := by decide +kernel
theorem dX11_two_10 : decode cX11_two 10 = .ok (.invokevirtual 322, 3) := by decide +kernel
theorem dX11_two_13 : decode cX11_two 13 = .ok (.lmul, 1) := by decide +kernel
theorem dX11_two_14 : decode cX11_two 14 = .ok (.aload_n 0, 1) := by decide +kernel
theorem dX11_two_15 : decode cX11_two 15 = .ok (.iload_n 1, 1) := by decide +kernel
theorem dX11_two_16 : decode cX11_two 16 = .ok (.iload 4, 2) := by decide +kernel
theorem dX11_two_18 : decode cX11_two 18 = .ok (.invokevirtual 322, 3) := by decide +kernel
theorem dX11_two_21 : decode cX11_two 21 = .ok (.aload_n 0, 1) := by decide +kernel
theorem dX11_two_22 : decode cX11_two 22 = .ok (.iload_n 2, 1) := by decide +kernel
theorem dX11_two_23 : decode cX11_two 23 = .ok (.iload_n 3, 1) := by decide +kernel
theorem dX11_two_24 : decode cX11_two 24 = .ok (.invokevirtual 322, 3) := by decide +kernel
theorem dX11_two_27 : decode cX11_two 27 = .ok (.lmul, 1) := by decide +kernel
theorem dX11_two_28 : decode cX11_two 28 = .ok (.lsub, 1) := by decide +kernel
theorem dX11_two_29 : decode cX11_two 29 = .ok (.lreturn, 1) := by decide +kernel
theorem dX11_minor_0 : decode cX11_minor 0 = .ok (.iload_n 1, 1) := by decide +kernel
theorem dX11_minor_1 : decode cX11_minor 1 = .ok (.ifCond .ne 5, 3) := by decide +kernel
theorem dX11_minor_4 : decode cX11_minor 4 = .ok (.lconst 1, 1) := by decide +kernel
theorem dX11_minor_5 : decode cX11_minor 5 = .ok (.lreturn, 1) := by decide +kernel
theorem dX11_minor_6 : decode cX11_minor 6 = .ok (.iload_n 1, 1) := by decide +kernel
theorem dX11_minor_7 : decode cX11_minor 7 = .ok (.iconst 1, 1) := by decide +kernel
theorem dX11_minor_8 : decode cX11_minor 8 = .ok (.if_icmp .ne 13, 3) := by decide +kernel
theorem dX11_minor_11 : decode cX11_minor 11 = .ok (.aload_n 0, 1) := by decide +kernel
theorem dX11_minor_12 : decode cX11_minor 12 = .ok (.iload_n 2, 1) := by decide +kernel
theorem dX11_minor_13 : decode cX11_minor 13 = .ok (.aload_n 0, 1) := by decide +kernel
theorem dX11_minor_14 : decode cX11_minor 14 = .ok (.getfield 324, 3) := by decide +kernel
theorem dX11_minor_17 : decode cX11_minor 17 = .ok (.invokevirtual 322, 3) := by decide +kernel
theorem dX11_minor_20 : decode cX11_minor 20 = .ok (.lreturn, 1) := by decide +kernel
theorem dX11_minor_21 : decode cX11_minor 21 = .ok (.iload_n 1, 1) := by decide +kernel
theorem dX11_minor_22 : decode cX11_minor 22 = .ok (.iconst 2, 1) := by decide +kernel
theorem dX11_minor_23 : decode cX11_minor 23 = .ok (.if_icmp .ne 18, 3) := by decide +kernel
theorem dX11_minor_26 : decode cX11_minor 26 = .ok (.aload_n 0, 1) := by decide +kernel
theorem dX11_minor_27 : decode cX11_minor 27 = .ok (.iload_n 2, 1) := by decide +kernel
theorem dX11_minor_28 : decode cX11_minor 28 = .ok (.iload_n 3, 1) := by decide +kernel
theorem dX11_minor_29 : decode cX11_minor 29 = .ok (.aload_n 0, 1) := by decide +kernel
theorem dX11_minor_30 : decode cX11_minor 30 = .ok (.getfield 324, 3) := by decide +kernel
theorem dX11_minor_33 : decode cX11_minor 33 = .ok (.aload_n 0, 1) := by decide +kernel
theorem dX11_minor_34 : decode cX11_minor 34 = .ok (.getfield 327, 3) := by decide +kernel
theorem dX11_minor_37 : decode cX11_minor 37 = .ok (.invokevirtual 330, 3) := by decide +kernel
theorem dX11_minor_40 : decode cX11_minor 40 = .ok (.lreturn, 1) := by decide +kernel
theorem dX11_minor_41 : decode cX11_minor 41 = .ok (.aload_n 0, 1) := by decide +kernel
theorem dX11_minor_42 : decode cX11_minor 42 = .ok (.iload_n 2, 1) := by decide +kernel
theorem dX11_minor_43 : decode cX11_minor 43 = .ok (.aload_n 0, 1) := by decide +kernel
theorem dX11_minor_44 : decode cX11_minor 44 = .ok (.getfield 324, 3) := by decide +kernel
theorem dX11_minor_47 : decode cX11_minor 47 = .ok (.invokevirtual 322, 3) := by decide +kernel
theorem dX11_minor_50 : decode cX11_minor 50 = .ok (.aload_n 0, 1) := by decide +kernel
theorem dX11_minor_51 : decode cX11_minor 51 = .ok (.iload_n 3, 1) := by decide +kernel
theorem dX11_minor_52 : decode cX11_minor 52 = .ok (.iload 4, 2) := by decide +kernel
theorem dX11_minor_54 : decode cX11_minor 54 = .ok (.aload_n 0, 1) := by decide +kernel
theorem dX11_minor_55 : decode cX11_minor 55 = .ok (.getfield 327, 3) := by decide +kernel
theorem dX11_minor_58 : decode cX11_minor 58 = .ok (.aload_n 0, 1) := by decide +kernel
theorem dX11_minor_59 : decode cX11_minor 59 = .ok (.getfield 333, 3) := by decide +kernel
theorem dX11_minor_62 : decode cX11_minor 62 = .ok (.invokevirtual 330, 3) := by decide +kernel
theorem dX11_minor_65 : decode cX11_minor 65 = .ok (.lmul, 1) := by decide +kernel
theorem dX11_minor_66 : decode cX11_minor 66 = .ok (.aload_n 0, 1) := by decide +kernel
theorem dX11_minor_67 : decode cX11_minor 67 = .ok (.iload_n 3, 1) := by decide +kernel
theorem dX11_minor_68 : decode cX11_minor 68 = .ok (.aload_n 0, 1) := by decide +kernel
theorem dX11_minor_69 : decode cX11_minor 69 = .ok (.getfield 324, 3) := by decide +kernel
theorem dX11_minor_72 : decode cX11_minor 72 = .ok (.invokevirtual 322, 3) := by decide +kernel
theorem dX11_minor_75 : decode cX11_minor 75 = .ok (.aload_n 0, 1) := by decide +kernel
theorem dX11_minor_76 : decode cX11_minor 76 = .ok (.iload_n 2, 1) := by decide +kernel
theorem dX11_minor_77 : decode cX11_minor 77 = .ok (.iload 4, 2) := by decide +kernel
theorem dX11_minor_79 : decode cX11_minor 79 = .ok (.aload_n 0, 1) := by decide +kernel
theorem dX11_minor_80 : decode cX11_minor 80 = .ok (.getfield 327, 3) := by decide +kernel
theorem dX11_minor_83 : decode cX11_minor 83 = .ok (.aload_n 0, 1) := by decide +kernel
theorem dX11_minor_84 : decode cX11_minor 84 = .ok (.getfield 333, 3) := by decide +kernel
theorem dX11_minor_87 : decode cX11_minor 87 = .ok (.invokevirtual 330, 3) := by decide +kernel
theorem dX11_minor_90 : decode cX11_minor 90 = .ok (.lmul, 1) := by decide +kernel
theorem dX11_minor_91 : decode cX11_minor 91 = .ok (.lsub, 1) := by decide +kernel
theorem dX11_minor_92 : decode cX11_minor 92 = .ok (.aload_n 0, 1) := by decide +kernel
theorem dX11_minor_93 : decode cX11_minor 93 = .ok (.iload 4, 2) := by decide +kernel
theorem dX11_minor_95 : decode cX11_minor 95 = .ok (.aload_n 0, 1) := by decide +kernel
theorem dX11_minor_96 : decode cX11_minor 96 = .ok (.getfield 324, 3) := by decide +kernel
theorem dX11_minor_99 : decode cX11_minor 99 = .ok (.invokevirtual 322, 3) := by decide +kernel
theorem dX11_minor_102 : decode cX11_minor 102 = .ok (.aload_n 0, 1) := by decide +kernel
theorem dX11_minor_103 : decode cX11_minor 103 = .ok (.iload_n 2, 1) := by decide +kernel
theorem dX11_minor_104 : decode cX11_minor 104 = .ok (.iload_n 3, 1) := by decide +kernel
theorem dX11_minor_105 : decode cX11_minor 105 = .ok (.aload_n 0, 1) := by decide +kernel
theorem dX11_minor_106 : decode cX11_minor 106 = .ok (.getfield 327, 3) := by decide +kernel
theorem dX11_minor_109 : decode cX11_minor 109 = .ok (.aload_n 0, 1) := by decide +kernel
theorem dX11_minor_110 : decode cX11_minor 110 = .ok (.getfield 333, 3) := by decide +kernel
theorem dX11_minor_113 : decode cX11_minor 113 = .ok (.invokevirtual 330, 3) := by decide +kernel
theorem dX11_minor_116 : decode cX11_minor 116 = .ok (.lmul, 1) := by decide +kernel
theorem dX11_minor_117 : decode cX11_minor 117 = .ok (.ladd, 1) := by decide +kernel
theorem dX11_minor_118 : decode cX11_minor 118 = .ok (.lreturn, 1) := by decide +kernel
theorem dX11_findsRows_0 : decode cX11_findsRows 0 = .ok (.aload_n 0, 1) := by decide +kernel
theorem dX11_findsRows_1 : decode cX11_findsRows 1 = .ok (.iconst 0, 1) := by decide +kernel
theorem dX11_findsRows_2 : decode cX11_findsRows 2 = .ok (.putfield 324, 3) := by decide +kernel
theorem dX11_findsRows_5 : decode cX11_findsRows 5 = .ok (.aload_n 0, 1) := by decide +kernel
theorem dX11_findsRows_6 : decode cX11_findsRows 6 = .ok (.getfield 324, 3) := by decide +kernel
theorem dX11_findsRows_9 : decode cX11_findsRows 9 = .ok (.bipush 28, 2) := by decide +kernel
theorem dX11_findsRows_11 : decode cX11_findsRows 11 = .ok (.if_icmp .ge 108, 3) := by decide +kernel
theorem dX11_findsRows_14 : decode cX11_findsRows 14 = .ok (.aload_n 0, 1) := by decide +kernel
theorem dX11_findsRows_15 : decode cX11_findsRows 15 = .ok (.iconst 0, 1) := by decide +kernel
theorem dX11_findsRows_16 : decode cX11_findsRows 16 = .ok (.putfield 327, 3) := by decide +kernel
theorem dX11_findsRows_19 : decode cX11_findsRows 19 = .ok (.aload_n 0, 1) := by decide +kernel
theorem dX11_findsRows_20 : decode cX11_findsRows 20 = .ok (.getfield 327, 3) := by decide +kernel
theorem dX11_findsRows_23 : decode cX11_findsRows 23 = .ok (.iload_n 1, 1) := by decide +kernel
theorem dX11_findsRows_24 : decode cX11_findsRows 24 = .ok (.iconst 1, 1) := by decide +kernel
theorem dX11_findsRows_25 : decode cX11_findsRows 25 = .ok (.if_icmp .le 10, 3) := by decide +kernel
theorem dX11_findsRows_28 : decode cX11_findsRows 28 = .ok (.aload_n 0, 1) := by decide +kernel
theorem dX11_findsRows_29 : decode cX11_findsRows 29 = .ok (.getfield 324, 3) := by decide +kernel
theorem dX11_findsRows_32 : decode cX11_findsRows 32 = .ok (.goto 4, 3) := by decide +kernel
theorem dX11_findsRows_35 : decode cX11_findsRows 35 = .ok (.iconst 1, 1) := by decide +kernel
theorem dX11_findsRows_36 : decode cX11_findsRows 36 = .ok (.if_icmp .ge 70, 3) := by decide +kernel
theorem dX11_findsRows_39 : decode cX11_findsRows 39 = .ok (.aload_n 0, 1) := by decide +kernel
theorem dX11_findsRows_40 : decode cX11_findsRows 40 = .ok (.iconst 0, 1) := by decide +kernel
theorem dX11_findsRows_41 : decode cX11_findsRows 41 = .ok (.putfield 333, 3) := by decide +kernel
theorem dX11_findsRows_44 : decode cX11_findsRows 44 = .ok (.aload_n 0, 1) := by decide +kernel
theorem dX11_findsRows_45 : decode cX11_findsRows 45 = .ok (.getfield 333, 3) := by decide +kernel
theorem dX11_findsRows_48 : decode cX11_findsRows 48 = .ok (.iload_n 1, 1) := by decide +kernel
theorem dX11_findsRows_49 : decode cX11_findsRows 49 = .ok (.iconst 2, 1) := by decide +kernel
theorem dX11_findsRows_50 : decode cX11_findsRows 50 = .ok (.if_icmp .le 10, 3) := by decide +kernel
theorem dX11_findsRows_53 : decode cX11_findsRows 53 = .ok (.aload_n 0, 1) := by decide +kernel
theorem dX11_findsRows_54 : decode cX11_findsRows 54 = .ok (.getfield 327, 3) := by decide +kernel
theorem dX11_findsRows_57 : decode cX11_findsRows 57 = .ok (.goto 4, 3) := by decide +kernel
theorem dX11_findsRows_60 : decode cX11_findsRows 60 = .ok (.iconst 1, 1) := by decide +kernel
theorem dX11_findsRows_61 : decode cX11_findsRows 61 = .ok (.if_icmp .ge 32, 3) := by decide +kernel
theorem dX11_findsRows_64 : decode cX11_findsRows 64 = .ok (.aload_n 0, 1) := by decide +kernel
theorem dX11_findsRows_65 : decode cX11_findsRows 65 = .ok (.iload_n 1, 1) := by decide +kernel
theorem dX11_findsRows_66 : decode cX11_findsRows 66 = .ok (.iload_n 2, 1) := by decide +kernel
theorem dX11_findsRows_67 : decode cX11_findsRows 67 = .ok (.iload_n 3, 1) := by decide +kernel
theorem dX11_findsRows_68 : decode cX11_findsRows 68 = .ok (.iload 4, 2) := by decide +kernel
theorem dX11_findsRows_70 : decode cX11_findsRows 70 = .ok (.invokevirtual 336, 3) := by decide +kernel
theorem dX11_findsRows_73 : decode cX11_findsRows 73 = .ok (.lconst 0, 1) := by decide +kernel
theorem dX11_findsRows_74 : decode cX11_findsRows 74 = .ok (.lcmp, 1) := by decide +kernel
theorem dX11_findsRows_75 : decode cX11_findsRows 75 = .ok (.ifCond .eq 5, 3) := by decide +kernel
theorem dX11_findsRows_78 : decode cX11_findsRows 78 = .ok (.iconst 1, 1) := by decide +kernel
theorem dX11_findsRows_79 : decode cX11_findsRows 79 = .ok (.ireturn, 1) := by decide +kernel
theorem dX11_findsRows_80 : decode cX11_findsRows 80 = .ok (.aload_n 0, 1) := by decide +kernel
theorem dX11_findsRows_81 : decode cX11_findsRows 81 = .ok (.dup, 1) := by decide +kernel
theorem dX11_findsRows_82 : decode cX11_findsRows 82 = .ok (.getfield 333, 3) := by decide +kernel
theorem dX11_findsRows_85 : decode cX11_findsRows 85 = .ok (.iconst 1, 1) := by decide +kernel
theorem dX11_findsRows_86 : decode cX11_findsRows 86 = .ok (.iadd, 1) := by decide +kernel
theorem dX11_findsRows_87 : decode cX11_findsRows 87 = .ok (.putfield 333, 3) := by decide +kernel
theorem dX11_findsRows_90 : decode cX11_findsRows 90 = .ok (.goto (-46), 3) := by decide +kernel
theorem dX11_findsRows_93 : decode cX11_findsRows 93 = .ok (.aload_n 0, 1) := by decide +kernel
theorem dX11_findsRows_94 : decode cX11_findsRows 94 = .ok (.dup, 1) := by decide +kernel
theorem dX11_findsRows_95 : decode cX11_findsRows 95 = .ok (.getfield 327, 3) := by decide +kernel
theorem dX11_findsRows_98 : decode cX11_findsRows 98 = .ok (.iconst 1, 1) := by decide +kernel
theorem dX11_findsRows_99 : decode cX11_findsRows 99 = .ok (.iadd, 1) := by decide +kernel
theorem dX11_findsRows_100 : decode cX11_findsRows 100 = .ok (.putfield 327, 3) := by decide +kernel
theorem dX11_findsRows_103 : decode cX11_findsRows 103 = .ok (.goto (-84), 3) := by decide +kernel
theorem dX11_findsRows_106 : decode cX11_findsRows 106 = .ok (.aload_n 0, 1) := by decide +kernel
theorem dX11_findsRows_107 : decode cX11_findsRows 107 = .ok (.dup, 1) := by decide +kernel
theorem dX11_findsRows_108 : decode cX11_findsRows 108 = .ok (.getfield 324, 3) := by decide +kernel
theorem dX11_findsRows_111 : decode cX11_findsRows 111 = .ok (.iconst 1, 1) := by decide +kernel
theorem dX11_findsRows_112 : decode cX11_findsRows 112 = .ok (.iadd, 1) := by decide +kernel
theorem dX11_findsRows_113 : decode cX11_findsRows 113 = .ok (.putfield 324, 3) := by decide +kernel
theorem dX11_findsRows_116 : decode cX11_findsRows 116 = .ok (.goto (-111), 3) := by decide +kernel
theorem dX11_findsRows_119 : decode cX11_findsRows 119 = .ok (.iconst 0, 1) := by decide +kernel
theorem dX11_findsRows_120 : decode cX11_findsRows 120 = .ok (.ireturn, 1) := by decide +kernel
theorem dX11_isNew_0 : decode cX11_isNew 0 = .ok (.aload_n 0, 1) := by decide +kernel
theorem dX11_isNew_1 : decode cX11_isNew 1 = .ok (.aload_n 0, 1) := by decide +kernel
theorem dX11_isNew_2 : decode cX11_isNew 2 = .ok (.getfield 339, 3) := by decide +kernel
theorem dX11_isNew_5 : decode cX11_isNew 5 = .ok (.iconst 1, 1) := by decide +kernel
theorem dX11_isNew_6 : decode cX11_isNew 6 = .ok (.iadd, 1) := by decide +kernel
theorem dX11_isNew_7 : decode cX11_isNew 7 = .ok (.aload_n 0, 1) := by decide +kernel
theorem dX11_isNew_8 : decode cX11_isNew 8 = .ok (.getfield 339, 3) := by decide +kernel
theorem dX11_isNew_11 : decode cX11_isNew 11 = .ok (.ifCond .ne 7, 3) := by decide +kernel
theorem dX11_isNew_14 : decode cX11_isNew 14 = .ok (.iconst 3, 1) := by decide +kernel
theorem dX11_isNew_15 : decode cX11_isNew 15 = .ok (.goto 4, 3) := by decide +kernel
theorem dX11_isNew_18 : decode cX11_isNew 18 = .ok (.iconst 0, 1) := by decide +kernel
theorem dX11_isNew_19 : decode cX11_isNew 19 = .ok (.aload_n 0, 1) := by decide +kernel
theorem dX11_isNew_20 : decode cX11_isNew 20 = .ok (.getfield 339, 3) := by decide +kernel
theorem dX11_isNew_23 : decode cX11_isNew 23 = .ok (.iconst 1, 1) := by decide +kernel
theorem dX11_isNew_24 : decode cX11_isNew 24 = .ok (.if_icmp .ne 7, 3) := by decide +kernel
theorem dX11_isNew_27 : decode cX11_isNew 27 = .ok (.iconst 3, 1) := by decide +kernel
theorem dX11_isNew_28 : decode cX11_isNew 28 = .ok (.goto 4, 3) := by decide +kernel
theorem dX11_isNew_31 : decode cX11_isNew 31 = .ok (.iconst 1, 1) := by decide +kernel
theorem dX11_isNew_32 : decode cX11_isNew 32 = .ok (.aload_n 0, 1) := by decide +kernel
theorem dX11_isNew_33 : decode cX11_isNew 33 = .ok (.getfield 339, 3) := by decide +kernel
theorem dX11_isNew_36 : decode cX11_isNew 36 = .ok (.iconst 2, 1) := by decide +kernel
theorem dX11_isNew_37 : decode cX11_isNew 37 = .ok (.if_icmp .ne 7, 3) := by decide +kernel
theorem dX11_isNew_40 : decode cX11_isNew 40 = .ok (.iconst 3, 1) := by decide +kernel
theorem dX11_isNew_41 : decode cX11_isNew 41 = .ok (.goto 4, 3) := by decide +kernel
theorem dX11_isNew_44 : decode cX11_isNew 44 = .ok (.iconst 2, 1) := by decide +kernel
theorem dX11_isNew_45 : decode cX11_isNew 45 = .ok (.invokevirtual 342, 3) := by decide +kernel
theorem dX11_isNew_48 : decode cX11_isNew 48 = .ok (.ireturn, 1) := by decide +kernel
theorem dX11_fillsColumns_0 : decode cX11_fillsColumns 0 = .ok (.aload_n 0, 1) := by decide +kernel
theorem dX11_fillsColumns_1 : decode cX11_fillsColumns 1 = .ok (.iconst 0, 1) := by decide +kernel
theorem dX11_fillsColumns_2 : decode cX11_fillsColumns 2 = .ok (.putfield 339, 3) := by decide +kernel
theorem dX11_fillsColumns_5 : decode cX11_fillsColumns 5 = .ok (.iconst 0, 1) := by decide +kernel
theorem dX11_fillsColumns_6 : decode cX11_fillsColumns 6 = .ok (.istore_n 2, 1) := by decide +kernel
theorem dX11_fillsColumns_7 : decode cX11_fillsColumns 7 = .ok (.iload_n 2, 1) := by decide +kernel
theorem dX11_fillsColumns_8 : decode cX11_fillsColumns 8 = .ok (.aload_n 0, 1) := by decide +kernel
theorem dX11_fillsColumns_9 : decode cX11_fillsColumns 9 = .ok (.getfield 95, 3) := by decide +kernel
theorem dX11_fillsColumns_12 : decode cX11_fillsColumns 12 = .ok (.if_icmp .ge 65, 3) := by decide +kernel
theorem dX11_fillsColumns_15 : decode cX11_fillsColumns 15 = .ok (.iload_n 1, 1) := by decide +kernel
theorem dX11_fillsColumns_16 : decode cX11_fillsColumns 16 = .ok (.iload_n 2, 1) := by decide +kernel
theorem dX11_fillsColumns_17 : decode cX11_fillsColumns 17 = .ok (.ishr, 1) := by decide +kernel
theorem dX11_fillsColumns_18 : decode cX11_fillsColumns 18 = .ok (.iconst 1, 1) := by decide +kernel
theorem dX11_fillsColumns_19 : decode cX11_fillsColumns 19 = .ok (.iand, 1) := by decide +kernel
theorem dX11_fillsColumns_20 : decode cX11_fillsColumns 20 = .ok (.ifCond .ne 6, 3) := by decide +kernel
theorem dX11_fillsColumns_23 : decode cX11_fillsColumns 23 = .ok (.goto 48, 3) := by decide +kernel
theorem dX11_fillsColumns_26 : decode cX11_fillsColumns 26 = .ok (.aload_n 0, 1) := by decide +kernel
theorem dX11_fillsColumns_27 : decode cX11_fillsColumns 27 = .ok (.iconst 3, 1) := by decide +kernel
theorem dX11_fillsColumns_28 : decode cX11_fillsColumns 28 = .ok (.iload_n 2, 1) := by decide +kernel
theorem dX11_fillsColumns_29 : decode cX11_fillsColumns 29 = .ok (.invokevirtual 346, 3) := by decide +kernel
theorem dX11_fillsColumns_32 : decode cX11_fillsColumns 32 = .ok (.aload_n 0, 1) := by decide +kernel
theorem dX11_fillsColumns_33 : decode cX11_fillsColumns 33 = .ok (.invokevirtual 349, 3) := by decide +kernel
theorem dX11_fillsColumns_36 : decode cX11_fillsColumns 36 = .ok (.ifCond .ne 6, 3) := by decide +kernel
theorem dX11_fillsColumns_39 : decode cX11_fillsColumns 39 = .ok (.goto 32, 3) := by decide +kernel
theorem dX11_fillsColumns_42 : decode cX11_fillsColumns 42 = .ok (.aload_n 0, 1) := by decide +kernel
theorem dX11_fillsColumns_43 : decode cX11_fillsColumns 43 = .ok (.aload_n 0, 1) := by decide +kernel
theorem dX11_fillsColumns_44 : decode cX11_fillsColumns 44 = .ok (.getfield 339, 3) := by decide +kernel
theorem dX11_fillsColumns_47 : decode cX11_fillsColumns 47 = .ok (.iload_n 2, 1) := by decide +kernel
theorem dX11_fillsColumns_48 : decode cX11_fillsColumns 48 = .ok (.invokevirtual 346, 3) := by decide +kernel
theorem dX11_fillsColumns_51 : decode cX11_fillsColumns 51 = .ok (.aload_n 0, 1) := by decide +kernel
theorem dX11_fillsColumns_52 : decode cX11_fillsColumns 52 = .ok (.getfield 76, 3) := by decide +kernel
theorem dX11_fillsColumns_55 : decode cX11_fillsColumns 55 = .ok (.aload_n 0, 1) := by decide +kernel
theorem dX11_fillsColumns_56 : decode cX11_fillsColumns 56 = .ok (.getfield 339, 3) := by decide +kernel
theorem dX11_fillsColumns_59 : decode cX11_fillsColumns 59 = .ok (.iload_n 2, 1) := by decide +kernel
theorem dX11_fillsColumns_60 : decode cX11_fillsColumns 60 = .ok (.iastore, 1) := by decide +kernel
theorem dX11_fillsColumns_61 : decode cX11_fillsColumns 61 = .ok (.aload_n 0, 1) := by decide +kernel
theorem dX11_fillsColumns_62 : decode cX11_fillsColumns 62 = .ok (.dup, 1) := by decide +kernel
theorem dX11_fillsColumns_63 : decode cX11_fillsColumns 63 = .ok (.getfield 339, 3) := by decide +kernel
theorem dX11_fillsColumns_66 : decode cX11_fillsColumns 66 = .ok (.iconst 1, 1) := by decide +kernel
theorem dX11_fillsColumns_67 : decode cX11_fillsColumns 67 = .ok (.iadd, 1) := by decide +kernel
theorem dX11_fillsColumns_68 : decode cX11_fillsColumns 68 = .ok (.putfield 339, 3) := by decide +kernel
theorem dX11_fillsColumns_71 : decode cX11_fillsColumns 71 = .ok (.iinc 2 1, 3) := by decide +kernel
theorem dX11_fillsColumns_74 : decode cX11_fillsColumns 74 = .ok (.goto (-67), 3) := by decide +kernel
theorem dX11_fillsColumns_77 : decode cX11_fillsColumns 77 = .ok (.return_, 1) := by decide +kernel
theorem dX11_upOf_0 : decode cX11_upOf 0 = .ok (.aload_n 0, 1) := by decide +kernel
theorem dX11_upOf_1 : decode cX11_upOf 1 = .ok (.aload_n 0, 1) := by decide +kernel
theorem dX11_upOf_2 : decode cX11_upOf 2 = .ok (.getfield 339, 3) := by decide +kernel
theorem dX11_upOf_5 : decode cX11_upOf 5 = .ok (.iload_n 1, 1) := by decide +kernel
theorem dX11_upOf_6 : decode cX11_upOf 6 = .ok (.ifCond .ne 7, 3) := by decide +kernel
theorem dX11_upOf_9 : decode cX11_upOf 9 = .ok (.iconst 3, 1) := by decide +kernel
theorem dX11_upOf_10 : decode cX11_upOf 10 = .ok (.goto 4, 3) := by decide +kernel
theorem dX11_upOf_13 : decode cX11_upOf 13 = .ok (.iconst 0, 1) := by decide +kernel
theorem dX11_upOf_14 : decode cX11_upOf 14 = .ok (.iload_n 1, 1) := by decide +kernel
theorem dX11_upOf_15 : decode cX11_upOf 15 = .ok (.iconst 1, 1) := by decide +kernel
theorem dX11_upOf_16 : decode cX11_upOf 16 = .ok (.if_icmp .ne 7, 3) := by decide +kernel
theorem dX11_upOf_19 : decode cX11_upOf 19 = .ok (.iconst 3, 1) := by decide +kernel
theorem dX11_upOf_20 : decode cX11_upOf 20 = .ok (.goto 4, 3) := by decide +kernel
theorem dX11_upOf_23 : decode cX11_upOf 23 = .ok (.iconst 1, 1) := by decide +kernel
theorem dX11_upOf_24 : decode cX11_upOf 24 = .ok (.iload_n 1, 1) := by decide +kernel
theorem dX11_upOf_25 : decode cX11_upOf 25 = .ok (.iconst 2, 1) := by decide +kernel
theorem dX11_upOf_26 : decode cX11_upOf 26 = .ok (.if_icmp .ne 7, 3) := by decide +kernel
theorem dX11_upOf_29 : decode cX11_upOf 29 = .ok (.iconst 3, 1) := by decide +kernel
theorem dX11_upOf_30 : decode cX11_upOf 30 = .ok (.goto 4, 3) := by decide +kernel
theorem dX11_upOf_33 : decode cX11_upOf 33 = .ok (.iconst 2, 1) := by decide +kernel
theorem dX11_upOf_34 : decode cX11_upOf 34 = .ok (.invokevirtual 336, 3) := by decide +kernel
theorem dX11_upOf_37 : decode cX11_upOf 37 = .ok (.lreturn, 1) := by decide +kernel
theorem dX11_isMade_0 : decode cX11_isMade 0 = .ok (.aload_n 0, 1) := by decide +kernel
theorem dX11_isMade_1 : decode cX11_isMade 1 = .ok (.aload_n 0, 1) := by decide +kernel
theorem dX11_isMade_2 : decode cX11_isMade 2 = .ok (.getfield 339, 3) := by decide +kernel
theorem dX11_isMade_5 : decode cX11_isMade 5 = .ok (.iconst 0, 1) := by decide +kernel
theorem dX11_isMade_6 : decode cX11_isMade 6 = .ok (.iconst 1, 1) := by decide +kernel
theorem dX11_isMade_7 : decode cX11_isMade 7 = .ok (.iconst 2, 1) := by decide +kernel
theorem dX11_isMade_8 : decode cX11_isMade 8 = .ok (.invokevirtual 336, 3) := by decide +kernel
theorem dX11_isMade_11 : decode cX11_isMade 11 = .ok (.lstore_n 1, 1) := by decide +kernel
theorem dX11_isMade_12 : decode cX11_isMade 12 = .ok (.iconst 1, 1) := by decide +kernel
theorem dX11_isMade_13 : decode cX11_isMade 13 = .ok (.istore_n 3, 1) := by decide +kernel
theorem dX11_isMade_14 : decode cX11_isMade 14 = .ok (.iconst 0, 1) := by decide +kernel
theorem dX11_isMade_15 : decode cX11_isMade 15 = .ok (.istore 4, 2) := by decide +kernel
theorem dX11_isMade_17 : decode cX11_isMade 17 = .ok (.iload 4, 2) := by decide +kernel
theorem dX11_isMade_19 : decode cX11_isMade 19 = .ok (.bipush 28, 2) := by decide +kernel
theorem dX11_isMade_21 : decode cX11_isMade 21 = .ok (.if_icmp .ge 75, 3) := by decide +kernel
theorem dX11_isMade_24 : decode cX11_isMade 24 = .ok (.iload_n 3, 1) := by decide +kernel
theorem dX11_isMade_25 : decode cX11_isMade 25 = .ok (.ifCond .eq 71, 3) := by decide +kernel
theorem dX11_isMade_28 : decode cX11_isMade 28 = .ok (.lconst 0, 1) := by decide +kernel
theorem dX11_isMade_29 : decode cX11_isMade 29 = .ok (.lstore 5, 2) := by decide +kernel
theorem dX11_isMade_31 : decode cX11_isMade 31 = .ok (.iconst 0, 1) := by decide +kernel
theorem dX11_isMade_32 : decode cX11_isMade 32 = .ok (.istore 7, 2) := by decide +kernel
theorem dX11_isMade_34 : decode cX11_isMade 34 = .ok (.iload 7, 2) := by decide +kernel
theorem dX11_isMade_36 : decode cX11_isMade 36 = .ok (.aload_n 0, 1) := by decide +kernel
theorem dX11_isMade_37 : decode cX11_isMade 37 = .ok (.getfield 339, 3) := by decide +kernel
theorem dX11_isMade_40 : decode cX11_isMade 40 = .ok (.if_icmp .ge 29, 3) := by decide +kernel
theorem dX11_isMade_43 : decode cX11_isMade 43 = .ok (.lload 5, 2) := by decide +kernel
theorem dX11_isMade_45 : decode cX11_isMade 45 = .ok (.aload_n 0, 1) := by decide +kernel
theorem dX11_isMade_46 : decode cX11_isMade 46 = .ok (.iload 7, 2) := by decide +kernel
theorem dX11_isMade_48 : decode cX11_isMade 48 = .ok (.invokevirtual 352, 3) := by decide +kernel
theorem dX11_isMade_51 : decode cX11_isMade 51 = .ok (.aload_n 0, 1) := by decide +kernel
theorem dX11_isMade_52 : decode cX11_isMade 52 = .ok (.iload 7, 2) := by decide +kernel
theorem dX11_isMade_54 : decode cX11_isMade 54 = .ok (.iload 4, 2) := by decide +kernel
theorem dX11_isMade_56 : decode cX11_isMade 56 = .ok (.invokevirtual 322, 3) := by decide +kernel
theorem dX11_isMade_59 : decode cX11_isMade 59 = .ok (.lmul, 1) := by decide +kernel
theorem dX11_isMade_60 : decode cX11_isMade 60 = .ok (.ladd, 1) := by decide +kernel
theorem dX11_isMade_61 : decode cX11_isMade 61 = .ok (.lstore 5, 2) := by decide +kernel
theorem dX11_isMade_63 : decode cX11_isMade 63 = .ok (.iinc 7 1, 3) := by decide +kernel
theorem dX11_isMade_66 : decode cX11_isMade 66 = .ok (.goto (-32), 3) := by decide +kernel
theorem dX11_isMade_69 : decode cX11_isMade 69 = .ok (.lload 5, 2) := by decide +kernel
theorem dX11_isMade_71 : decode cX11_isMade 71 = .ok (.lload_n 1, 1) := by decide +kernel
theorem dX11_isMade_72 : decode cX11_isMade 72 = .ok (.aload_n 0, 1) := by decide +kernel
theorem dX11_isMade_73 : decode cX11_isMade 73 = .ok (.iconst 3, 1) := by decide +kernel
theorem dX11_isMade_74 : decode cX11_isMade 74 = .ok (.iload 4, 2) := by decide +kernel
theorem dX11_isMade_76 : decode cX11_isMade 76 = .ok (.invokevirtual 322, 3) := by decide +kernel
theorem dX11_isMade_79 : decode cX11_isMade 79 = .ok (.lmul, 1) := by decide +kernel
theorem dX11_isMade_80 : decode cX11_isMade 80 = .ok (.lcmp, 1) := by decide +kernel
theorem dX11_isMade_81 : decode cX11_isMade 81 = .ok (.ifCond .ne 7, 3) := by decide +kernel
theorem dX11_isMade_84 : decode cX11_isMade 84 = .ok (.iconst 1, 1) := by decide +kernel
theorem dX11_isMade_85 : decode cX11_isMade 85 = .ok (.goto 4, 3) := by decide +kernel
theorem dX11_isMade_88 : decode cX11_isMade 88 = .ok (.iconst 0, 1) := by decide +kernel
theorem dX11_isMade_89 : decode cX11_isMade 89 = .ok (.istore_n 3, 1) := by decide +kernel
theorem dX11_isMade_90 : decode cX11_isMade 90 = .ok (.iinc 4 1, 3) := by decide +kernel
theorem dX11_isMade_93 : decode cX11_isMade 93 = .ok (.goto (-76), 3) := by decide +kernel
theorem dX11_isMade_96 : decode cX11_isMade 96 = .ok (.iload_n 3, 1) := by decide +kernel
theorem dX11_isMade_97 : decode cX11_isMade 97 = .ok (.ireturn, 1) := by decide +kernel
theorem dX11_isSmall_0 : decode cX11_isSmall 0 = .ok (.iconst 1, 1) := by decide +kernel
theorem dX11_isSmall_1 : decode cX11_isSmall 1 = .ok (.istore_n 2, 1) := by decide +kernel
theorem dX11_isSmall_2 : decode cX11_isSmall 2 = .ok (.iconst 0, 1) := by decide +kernel
theorem dX11_isSmall_3 : decode cX11_isSmall 3 = .ok (.istore_n 3, 1) := by decide +kernel
theorem dX11_isSmall_4 : decode cX11_isSmall 4 = .ok (.aload_n 0, 1) := by decide +kernel
theorem dX11_isSmall_5 : decode cX11_isSmall 5 = .ok (.iload_n 1, 1) := by decide +kernel
theorem dX11_isSmall_6 : decode cX11_isSmall 6 = .ok (.iload_n 3, 1) := by decide +kernel
theorem dX11_isSmall_7 : decode cX11_isSmall 7 = .ok (.invokevirtual 111, 3) := by decide +kernel
theorem dX11_isSmall_10 : decode cX11_isSmall 10 = .ok (.ifCond .eq 25, 3) := by decide +kernel
theorem dX11_isSmall_13 : decode cX11_isSmall 13 = .ok (.iload_n 2, 1) := by decide +kernel
theorem dX11_isSmall_14 : decode cX11_isSmall 14 = .ok (.aload_n 0, 1) := by decide +kernel
theorem dX11_isSmall_15 : decode cX11_isSmall 15 = .ok (.iload_n 1, 1) := by decide +kernel
theorem dX11_isSmall_16 : decode cX11_isSmall 16 = .ok (.iload_n 3, 1) := by decide +kernel
theorem dX11_isSmall_17 : decode cX11_isSmall 17 = .ok (.invokevirtual 115, 3) := by decide +kernel
theorem dX11_isSmall_20 : decode cX11_isSmall 20 = .ok (.bipush (-99), 2) := by decide +kernel
theorem dX11_isSmall_22 : decode cX11_isSmall 22 = .ok (.bipush 99, 2) := by decide +kernel
theorem dX11_isSmall_24 : decode cX11_isSmall 24 = .ok (.invokestatic 98, 3) := by decide +kernel
theorem dX11_isSmall_27 : decode cX11_isSmall 27 = .ok (.iand, 1) := by decide +kernel
theorem dX11_isSmall_28 : decode cX11_isSmall 28 = .ok (.istore_n 2, 1) := by decide +kernel
theorem dX11_isSmall_29 : decode cX11_isSmall 29 = .ok (.iinc 3 1, 3) := by decide +kernel
theorem dX11_isSmall_32 : decode cX11_isSmall 32 = .ok (.goto (-28), 3) := by decide +kernel
theorem dX11_isSmall_35 : decode cX11_isSmall 35 = .ok (.iload_n 2, 1) := by decide +kernel
theorem dX11_isSmall_36 : decode cX11_isSmall 36 = .ok (.ireturn, 1) := by decide +kernel
theorem dX11_isSetOf_0 : decode cX11_isSetOf 0 = .ok (.iconst 0, 1) := by decide +kernel
theorem dX11_isSetOf_1 : decode cX11_isSetOf 1 = .ok (.istore_n 3, 1) := by decide +kernel
theorem dX11_isSetOf_2 : decode cX11_isSetOf 2 = .ok (.aload_n 0, 1) := by decide +kernel
theorem dX11_isSetOf_3 : decode cX11_isSetOf 3 = .ok (.iload_n 1, 1) := by decide +kernel
theorem dX11_isSetOf_4 : decode cX11_isSetOf 4 = .ok (.invokevirtual 355, 3) := by decide +kernel
theorem dX11_isSetOf_7 : decode cX11_isSetOf 7 = .ok (.ifCond .eq 15, 3) := by decide +kernel
theorem dX11_isSetOf_10 : decode cX11_isSetOf 10 = .ok (.iload_n 2, 1) := by decide +kernel
theorem dX11_isSetOf_11 : decode cX11_isSetOf 11 = .ok (.iload_n 1, 1) := by decide +kernel
theorem dX11_isSetOf_12 : decode cX11_isSetOf 12 = .ok (.ishr, 1) := by decide +kernel
theorem dX11_isSetOf_13 : decode cX11_isSetOf 13 = .ok (.iconst 1, 1) := by decide +kernel
theorem dX11_isSetOf_14 : decode cX11_isSetOf 14 = .ok (.iand, 1) := by decide +kernel
theorem dX11_isSetOf_15 : decode cX11_isSetOf 15 = .ok (.ifCond .ne 7, 3) := by decide +kernel
theorem dX11_isSetOf_18 : decode cX11_isSetOf 18 = .ok (.iconst 1, 1) := by decide +kernel
theorem dX11_isSetOf_19 : decode cX11_isSetOf 19 = .ok (.goto 4, 3) := by decide +kernel
theorem dX11_isSetOf_22 : decode cX11_isSetOf 22 = .ok (.iconst 0, 1) := by decide +kernel
theorem dX11_isSetOf_23 : decode cX11_isSetOf 23 = .ok (.istore 4, 2) := by decide +kernel
theorem dX11_isSetOf_25 : decode cX11_isSetOf 25 = .ok (.iconst 0, 1) := by decide +kernel
theorem dX11_isSetOf_26 : decode cX11_isSetOf 26 = .ok (.istore 5, 2) := by decide +kernel
theorem dX11_isSetOf_28 : decode cX11_isSetOf 28 = .ok (.iload 5, 2) := by decide +kernel
theorem dX11_isSetOf_30 : decode cX11_isSetOf 30 = .ok (.aload_n 0, 1) := by decide +kernel
theorem dX11_isSetOf_31 : decode cX11_isSetOf 31 = .ok (.getfield 95, 3) := by decide +kernel
theorem dX11_isSetOf_34 : decode cX11_isSetOf 34 = .ok (.if_icmp .ge 59, 3) := by decide +kernel
theorem dX11_isSetOf_37 : decode cX11_isSetOf 37 = .ok (.iload_n 2, 1) := by decide +kernel
theorem dX11_isSetOf_38 : decode cX11_isSetOf 38 = .ok (.iload 5, 2) := by decide +kernel
theorem dX11_isSetOf_40 : decode cX11_isSetOf 40 = .ok (.ishr, 1) := by decide +kernel
theorem dX11_isSetOf_41 : decode cX11_isSetOf 41 = .ok (.iconst 1, 1) := by decide +kernel
theorem dX11_isSetOf_42 : decode cX11_isSetOf 42 = .ok (.iand, 1) := by decide +kernel
theorem dX11_isSetOf_43 : decode cX11_isSetOf 43 = .ok (.ifCond .ne 6, 3) := by decide +kernel
theorem dX11_isSetOf_46 : decode cX11_isSetOf 46 = .ok (.goto 41, 3) := by decide +kernel
theorem dX11_isSetOf_49 : decode cX11_isSetOf 49 = .ok (.iinc 3 1, 3) := by decide +kernel
theorem dX11_isSetOf_52 : decode cX11_isSetOf 52 = .ok (.iload 4, 2) := by decide +kernel
theorem dX11_isSetOf_54 : decode cX11_isSetOf 54 = .ok (.aload_n 0, 1) := by decide +kernel
theorem dX11_isSetOf_55 : decode cX11_isSetOf 55 = .ok (.getfield 36, 3) := by decide +kernel
theorem dX11_isSetOf_58 : decode cX11_isSetOf 58 = .ok (.iload 5, 2) := by decide +kernel
theorem dX11_isSetOf_60 : decode cX11_isSetOf 60 = .ok (.iaload, 1) := by decide +kernel
theorem dX11_isSetOf_61 : decode cX11_isSetOf 61 = .ok (.aload_n 0, 1) := by decide +kernel
theorem dX11_isSetOf_62 : decode cX11_isSetOf 62 = .ok (.getfield 36, 3) := by decide +kernel
theorem dX11_isSetOf_65 : decode cX11_isSetOf 65 = .ok (.iload_n 1, 1) := by decide +kernel
theorem dX11_isSetOf_66 : decode cX11_isSetOf 66 = .ok (.iaload, 1) := by decide +kernel
theorem dX11_isSetOf_67 : decode cX11_isSetOf 67 = .ok (.if_icmp .ne 16, 3) := by decide +kernel
theorem dX11_isSetOf_70 : decode cX11_isSetOf 70 = .ok (.aload_n 0, 1) := by decide +kernel
theorem dX11_isSetOf_71 : decode cX11_isSetOf 71 = .ok (.iload 5, 2) := by decide +kernel
theorem dX11_isSetOf_73 : decode cX11_isSetOf 73 = .ok (.invokevirtual 355, 3) := by decide +kernel
theorem dX11_isSetOf_76 : decode cX11_isSetOf 76 = .ok (.ifCond .eq 7, 3) := by decide +kernel
theorem dX11_isSetOf_79 : decode cX11_isSetOf 79 = .ok (.iconst 1, 1) := by decide +kernel
theorem dX11_isSetOf_80 : decode cX11_isSetOf 80 = .ok (.goto 4, 3) := by decide +kernel
theorem dX11_isSetOf_83 : decode cX11_isSetOf 83 = .ok (.iconst 0, 1) := by decide +kernel
theorem dX11_isSetOf_84 : decode cX11_isSetOf 84 = .ok (.iand, 1) := by decide +kernel
theorem dX11_isSetOf_85 : decode cX11_isSetOf 85 = .ok (.istore 4, 2) := by decide +kernel
theorem dX11_isSetOf_87 : decode cX11_isSetOf 87 = .ok (.iinc 5 1, 3) := by decide +kernel
theorem dX11_isSetOf_90 : decode cX11_isSetOf 90 = .ok (.goto (-62), 3) := by decide +kernel
theorem dX11_isSetOf_93 : decode cX11_isSetOf 93 = .ok (.iload 4, 2) := by decide +kernel
theorem dX11_isSetOf_95 : decode cX11_isSetOf 95 = .ok (.ifCond .eq 16, 3) := by decide +kernel
theorem dX11_isSetOf_98 : decode cX11_isSetOf 98 = .ok (.iload_n 3, 1) := by decide +kernel
theorem dX11_isSetOf_99 : decode cX11_isSetOf 99 = .ok (.iconst 1, 1) := by decide +kernel
theorem dX11_isSetOf_100 : decode cX11_isSetOf 100 = .ok (.iconst 3, 1) := by decide +kernel
theorem dX11_isSetOf_101 : decode cX11_isSetOf 101 = .ok (.invokestatic 98, 3) := by decide +kernel
theorem dX11_isSetOf_104 : decode cX11_isSetOf 104 = .ok (.ifCond .eq 7, 3) := by decide +kernel
theorem dX11_isSetOf_107 : decode cX11_isSetOf 107 = .ok (.iconst 1, 1) := by decide +kernel
theorem dX11_isSetOf_108 : decode cX11_isSetOf 108 = .ok (.goto 4, 3) := by decide +kernel
theorem dX11_isSetOf_111 : decode cX11_isSetOf 111 = .ok (.iconst 0, 1) := by decide +kernel
theorem dX11_isSetOf_112 : decode cX11_isSetOf 112 = .ok (.ireturn, 1) := by decide +kernel
theorem dX11_made_0 : decode cX11_made 0 = .ok (.aload_n 0, 1) := by decide +kernel
theorem dX11_made_1 : decode cX11_made 1 = .ok (.iload_n 1, 1) := by decide +kernel
theorem dX11_made_2 : decode cX11_made 2 = .ok (.invokevirtual 143, 3) := by decide +kernel
theorem dX11_made_5 : decode cX11_made 5 = .ok (.ifCond .eq 25, 3) := by decide +kernel
theorem dX11_made_8 : decode cX11_made 8 = .ok (.iload_n 2, 1) := by decide +kernel
theorem dX11_made_9 : decode cX11_made 9 = .ok (.iconst 1, 1) := by decide +kernel
theorem dX11_made_10 : decode cX11_made 10 = .ok (.if_icmp .lt 20, 3) := by decide +kernel
theorem dX11_made_13 : decode cX11_made 13 = .ok (.iload_n 2, 1) := by decide +kernel
theorem dX11_made_14 : decode cX11_made 14 = .ok (.aload_n 0, 1) := by decide +kernel
theorem dX11_made_15 : decode cX11_made 15 = .ok (.getfield 95, 3) := by decide +kernel
theorem dX11_made_18 : decode cX11_made 18 = .ok (.ishr, 1) := by decide +kernel
theorem dX11_made_19 : decode cX11_made 19 = .ok (.ifCond .ne 11, 3) := by decide +kernel
theorem dX11_made_22 : decode cX11_made 22 = .ok (.aload_n 0, 1) := by decide +kernel
theorem dX11_made_23 : decode cX11_made 23 = .ok (.iload_n 3, 1) := by decide +kernel
theorem dX11_made_24 : decode cX11_made 24 = .ok (.invokevirtual 143, 3) := by decide +kernel
theorem dX11_made_27 : decode cX11_made 27 = .ok (.ifCond .ne 7, 3) := by decide +kernel
theorem dX11_made_30 : decode cX11_made 30 = .ok (.iconst (-1), 1) := by decide +kernel
theorem dX11_made_31 : decode cX11_made 31 = .ok (.goto 33, 3) := by decide +kernel
theorem dX11_made_34 : decode cX11_made 34 = .ok (.iload 4, 2) := by decide +kernel
theorem dX11_made_36 : decode cX11_made 36 = .ok (.iconst 0, 1) := by decide +kernel
theorem dX11_made_37 : decode cX11_made 37 = .ok (.iconst 1, 1) := by decide +kernel
theorem dX11_made_38 : decode cX11_made 38 = .ok (.invokestatic 98, 3) := by decide +kernel
theorem dX11_made_41 : decode cX11_made 41 = .ok (.ifCond .ne 8, 3) := by decide +kernel
theorem dX11_made_44 : decode cX11_made 44 = .ok (.bipush (-2), 2) := by decide +kernel
theorem dX11_made_46 : decode cX11_made 46 = .ok (.goto 18, 3) := by decide +kernel
theorem dX11_made_49 : decode cX11_made 49 = .ok (.aload_n 0, 1) := by decide +kernel
theorem dX11_made_50 : decode cX11_made 50 = .ok (.iload_n 1, 1) := by decide +kernel
theorem dX11_made_51 : decode cX11_made 51 = .ok (.iload_n 2, 1) := by decide +kernel
theorem dX11_made_52 : decode cX11_made 52 = .ok (.invokevirtual 358, 3) := by decide +kernel
theorem dX11_made_55 : decode cX11_made 55 = .ok (.ifCond .eq 7, 3) := by decide +kernel
theorem dX11_made_58 : decode cX11_made 58 = .ok (.iconst 0, 1) := by decide +kernel
theorem dX11_made_59 : decode cX11_made 59 = .ok (.goto 5, 3) := by decide +kernel
theorem dX11_made_62 : decode cX11_made 62 = .ok (.bipush (-3), 2) := by decide +kernel
theorem dX11_made_64 : decode cX11_made 64 = .ok (.istore 5, 2) := by decide +kernel
theorem dX11_made_66 : decode cX11_made 66 = .ok (.iload 5, 2) := by decide +kernel
theorem dX11_made_68 : decode cX11_made 68 = .ok (.ifCond .eq 10, 3) := by decide +kernel
theorem dX11_made_71 : decode cX11_made 71 = .ok (.aload_n 0, 1) := by decide +kernel
theorem dX11_made_72 : decode cX11_made 72 = .ok (.iload 5, 2) := by decide +kernel
theorem dX11_made_74 : decode cX11_made 74 = .ok (.invokevirtual 231, 3) := by decide +kernel
theorem dX11_made_77 : decode cX11_made 77 = .ok (.lreturn, 1) := by decide +kernel
theorem dX11_made_78 : decode cX11_made 78 = .ok (.aload_n 0, 1) := by decide +kernel
theorem dX11_made_79 : decode cX11_made 79 = .ok (.iload_n 2, 1) := by decide +kernel
theorem dX11_made_80 : decode cX11_made 80 = .ok (.invokevirtual 361, 3) := by decide +kernel
theorem dX11_made_83 : decode cX11_made 83 = .ok (.aload_n 0, 1) := by decide +kernel
theorem dX11_made_84 : decode cX11_made 84 = .ok (.iconst 3, 1) := by decide +kernel
theorem dX11_made_85 : decode cX11_made 85 = .ok (.iload_n 1, 1) := by decide +kernel
theorem dX11_made_86 : decode cX11_made 86 = .ok (.invokevirtual 346, 3) := by decide +kernel
theorem dX11_made_89 : decode cX11_made 89 = .ok (.aload_n 0, 1) := by decide +kernel
theorem dX11_made_90 : decode cX11_made 90 = .ok (.aload_n 0, 1) := by decide +kernel
theorem dX11_made_91 : decode cX11_made 91 = .ok (.getfield 339, 3) := by decide +kernel
theorem dX11_made_94 : decode cX11_made 94 = .ok (.iconst 0, 1) := by decide +kernel
theorem dX11_made_95 : decode cX11_made 95 = .ok (.iconst 1, 1) := by decide +kernel
theorem dX11_made_96 : decode cX11_made 96 = .ok (.iconst 2, 1) := by decide +kernel
theorem dX11_made_97 : decode cX11_made 97 = .ok (.invokevirtual 342, 3) := by decide +kernel
theorem dX11_made_100 : decode cX11_made 100 = .ok (.pop, 1) := by decide +kernel
theorem dX11_made_101 : decode cX11_made 101 = .ok (.aload_n 0, 1) := by decide +kernel
theorem dX11_made_102 : decode cX11_made 102 = .ok (.invokevirtual 364, 3) := by decide +kernel
theorem dX11_made_105 : decode cX11_made 105 = .ok (.ifCond .ne 10, 3) := by decide +kernel
theorem dX11_made_108 : decode cX11_made 108 = .ok (.aload_n 0, 1) := by decide +kernel
theorem dX11_made_109 : decode cX11_made 109 = .ok (.bipush (-3), 2) := by decide +kernel
theorem dX11_made_111 : decode cX11_made 111 = .ok (.invokevirtual 231, 3) := by decide +kernel
theorem dX11_made_114 : decode cX11_made 114 = .ok (.lreturn, 1) := by decide +kernel
theorem dX11_made_115 : decode cX11_made 115 = .ok (.iconst 0, 1) := by decide +kernel
theorem dX11_made_116 : decode cX11_made 116 = .ok (.istore 6, 2) := by decide +kernel
theorem dX11_made_118 : decode cX11_made 118 = .ok (.iload 6, 2) := by decide +kernel
theorem dX11_made_120 : decode cX11_made 120 = .ok (.aload_n 0, 1) := by decide +kernel
theorem dX11_made_121 : decode cX11_made 121 = .ok (.getfield 339, 3) := by decide +kernel
theorem dX11_made_124 : decode cX11_made 124 = .ok (.if_icmp .ge 43, 3) := by decide +kernel
theorem dX11_made_127 : decode cX11_made 127 = .ok (.aload_n 0, 1) := by decide +kernel
theorem dX11_made_128 : decode cX11_made 128 = .ok (.getfield 76, 3) := by decide +kernel
theorem dX11_made_131 : decode cX11_made 131 = .ok (.iload 6, 2) := by decide +kernel
theorem dX11_made_133 : decode cX11_made 133 = .ok (.iaload, 1) := by decide +kernel
theorem dX11_made_134 : decode cX11_made 134 = .ok (.iload_n 3, 1) := by decide +kernel
theorem dX11_made_135 : decode cX11_made 135 = .ok (.if_icmp .ne 26, 3) := by decide +kernel
theorem dX11_made_138 : decode cX11_made 138 = .ok (.aload_n 0, 1) := by decide +kernel
theorem dX11_made_139 : decode cX11_made 139 = .ok (.iload 6, 2) := by decide +kernel
theorem dX11_made_141 : decode cX11_made 141 = .ok (.invokevirtual 352, 3) := by decide +kernel
theorem dX11_made_144 : decode cX11_made 144 = .ok (.aload_n 0, 1) := by decide +kernel
theorem dX11_made_145 : decode cX11_made 145 = .ok (.aload_n 0, 1) := by decide +kernel
theorem dX11_made_146 : decode cX11_made 146 = .ok (.getfield 339, 3) := by decide +kernel
theorem dX11_made_149 : decode cX11_made 149 = .ok (.iconst 0, 1) := by decide +kernel
theorem dX11_made_150 : decode cX11_made 150 = .ok (.iconst 1, 1) := by decide +kernel
theorem dX11_made_151 : decode cX11_made 151 = .ok (.iconst 2, 1) := by decide +kernel
theorem dX11_made_152 : decode cX11_made 152 = .ok (.invokevirtual 336, 3) := by decide +kernel
theorem dX11_made_155 : decode cX11_made 155 = .ok (.iload 4, 2) := by decide +kernel
theorem dX11_made_157 : decode cX11_made 157 = .ok (.invokestatic 303, 3) := by decide +kernel
theorem dX11_made_160 : decode cX11_made 160 = .ok (.lreturn, 1) := by decide +kernel
theorem dX11_made_161 : decode cX11_made 161 = .ok (.iinc 6 1, 3) := by decide +kernel
theorem dX11_made_164 : decode cX11_made 164 = .ok (.goto (-46), 3) := by decide +kernel
theorem dX11_made_167 : decode cX11_made 167 = .ok (.iload 4, 2) := by decide +kernel
theorem dX11_made_169 : decode cX11_made 169 = .ok (.i2l, 1) := by decide +kernel
theorem dX11_made_170 : decode cX11_made 170 = .ok (.lreturn, 1) := by decide +kernel
theorem dX11_puts_0 : decode cX11_puts 0 = .ok (.aload_n 0, 1) := by decide +kernel
theorem dX11_puts_1 : decode cX11_puts 1 = .ok (.getfield 79, 3) := by decide +kernel
theorem dX11_puts_4 : decode cX11_puts 4 = .ok (.aload_n 0, 1) := by decide +kernel
theorem dX11_puts_5 : decode cX11_puts 5 = .ok (.getfield 367, 3) := by decide +kernel
theorem dX11_puts_8 : decode cX11_puts 8 = .ok (.iload_n 1, 1) := by decide +kernel
theorem dX11_puts_9 : decode cX11_puts 9 = .ok (.iastore, 1) := by decide +kernel
theorem dX11_puts_10 : decode cX11_puts 10 = .ok (.aload_n 0, 1) := by decide +kernel
theorem dX11_puts_11 : decode cX11_puts 11 = .ok (.dup, 1) := by decide +kernel
theorem dX11_puts_12 : decode cX11_puts 12 = .ok (.getfield 367, 3) := by decide +kernel
theorem dX11_puts_15 : decode cX11_puts 15 = .ok (.iconst 1, 1) := by decide +kernel
theorem dX11_puts_16 : decode cX11_puts 16 = .ok (.iadd, 1) := by decide +kernel
theorem dX11_puts_17 : decode cX11_puts 17 = .ok (.putfield 367, 3) := by decide +kernel
theorem dX11_puts_20 : decode cX11_puts 20 = .ok (.return_, 1) := by decide +kernel
theorem dX11_putsNumber_0 : decode cX11_putsNumber 0 = .ok (.iconst 1, 1) := by decide +kernel
theorem dX11_putsNumber_1 : decode cX11_putsNumber 1 = .ok (.istore_n 2, 1) := by decide +kernel
theorem dX11_putsNumber_2 : decode cX11_putsNumber 2 = .ok (.iload_n 1, 1) := by decide +kernel
theorem dX11_putsNumber_3 : decode cX11_putsNumber 3 = .ok (.iload_n 2, 1) := by decide +kernel
theorem dX11_putsNumber_4 : decode cX11_putsNumber 4 = .ok (.idiv, 1) := by decide +kernel
theorem dX11_putsNumber_5 : decode cX11_putsNumber 5 = .ok (.bipush 9, 2) := by decide +kernel
theorem dX11_putsNumber_7 : decode cX11_putsNumber 7 = .ok (.if_icmp .le 11, 3) := by decide +kernel
theorem dX11_putsNumber_10 : decode cX11_putsNumber 10 = .ok (.iload_n 2, 1) := by decide +kernel
theorem dX11_putsNumber_11 : decode cX11_putsNumber 11 = .ok (.bipush 10, 2) := by decide +kernel
theorem dX11_putsNumber_13 : decode cX11_putsNumber 13 = .ok (.imul, 1) := by decide +kernel
theorem dX11_putsNumber_14 : decode cX11_putsNumber 14 = .ok (.istore_n 2, 1) := by decide +kernel
theorem dX11_putsNumber_15 : decode cX11_putsNumber 15 = .ok (.goto (-13), 3) := by decide +kernel
theorem dX11_putsNumber_18 : decode cX11_putsNumber 18 = .ok (.iload_n 2, 1) := by decide +kernel
theorem dX11_putsNumber_19 : decode cX11_putsNumber 19 = .ok (.ifCond .le 24, 3) := by decide +kernel
theorem dX11_putsNumber_22 : decode cX11_putsNumber 22 = .ok (.aload_n 0, 1) := by decide +kernel
theorem dX11_putsNumber_23 : decode cX11_putsNumber 23 = .ok (.bipush 48, 2) := by decide +kernel
theorem dX11_putsNumber_25 : decode cX11_putsNumber 25 = .ok (.iload_n 1, 1) := by decide +kernel
theorem dX11_putsNumber_26 : decode cX11_putsNumber 26 = .ok (.iload_n 2, 1) := by decide +kernel
theorem dX11_putsNumber_27 : decode cX11_putsNumber 27 = .ok (.idiv, 1) := by decide +kernel
theorem dX11_putsNumber_28 : decode cX11_putsNumber 28 = .ok (.bipush 10, 2) := by decide +kernel
theorem dX11_putsNumber_30 : decode cX11_putsNumber 30 = .ok (.irem, 1) := by decide +kernel
theorem dX11_putsNumber_31 : decode cX11_putsNumber 31 = .ok (.iadd, 1) := by decide +kernel
theorem dX11_putsNumber_32 : decode cX11_putsNumber 32 = .ok (.invokevirtual 370, 3) := by decide +kernel
theorem dX11_putsNumber_35 : decode cX11_putsNumber 35 = .ok (.iload_n 2, 1) := by decide +kernel
theorem dX11_putsNumber_36 : decode cX11_putsNumber 36 = .ok (.bipush 10, 2) := by decide +kernel
theorem dX11_putsNumber_38 : decode cX11_putsNumber 38 = .ok (.idiv, 1) := by decide +kernel
theorem dX11_putsNumber_39 : decode cX11_putsNumber 39 = .ok (.istore_n 2, 1) := by decide +kernel
theorem dX11_putsNumber_40 : decode cX11_putsNumber 40 = .ok (.goto (-22), 3) := by decide +kernel
theorem dX11_putsNumber_43 : decode cX11_putsNumber 43 = .ok (.return_, 1) := by decide +kernel
theorem dX11_spells_0 : decode cX11_spells 0 = .ok (.aload_n 0, 1) := by decide +kernel
theorem dX11_spells_1 : decode cX11_spells 1 = .ok (.iconst 0, 1) := by decide +kernel
theorem dX11_spells_2 : decode cX11_spells 2 = .ok (.putfield 367, 3) := by decide +kernel
theorem dX11_spells_5 : decode cX11_spells 5 = .ok (.aload_n 0, 1) := by decide +kernel
theorem dX11_spells_6 : decode cX11_spells 6 = .ok (.getfield 36, 3) := by decide +kernel
theorem dX11_spells_9 : decode cX11_spells 9 = .ok (.iload_n 1, 1) := by decide +kernel
theorem dX11_spells_10 : decode cX11_spells 10 = .ok (.iaload, 1) := by decide +kernel
theorem dX11_spells_11 : decode cX11_spells 11 = .ok (.istore_n 2, 1) := by decide +kernel
theorem dX11_spells_12 : decode cX11_spells 12 = .ok (.iconst 0, 1) := by decide +kernel
theorem dX11_spells_13 : decode cX11_spells 13 = .ok (.istore_n 3, 1) := by decide +kernel
theorem dX11_spells_14 : decode cX11_spells 14 = .ok (.aload_n 0, 1) := by decide +kernel
theorem dX11_spells_15 : decode cX11_spells 15 = .ok (.iload_n 1, 1) := by decide +kernel
theorem dX11_spells_16 : decode cX11_spells 16 = .ok (.iload_n 3, 1) := by decide +kernel
theorem dX11_spells_17 : decode cX11_spells 17 = .ok (.invokevirtual 111, 3) := by decide +kernel
theorem dX11_spells_20 : decode cX11_spells 20 = .ok (.ifCond .eq 145, 3) := by decide +kernel
theorem dX11_spells_23 : decode cX11_spells 23 = .ok (.aload_n 0, 1) := by decide +kernel
theorem dX11_spells_24 : decode cX11_spells 24 = .ok (.iload_n 1, 1) := by decide +kernel
theorem dX11_spells_25 : decode cX11_spells 25 = .ok (.iload_n 3, 1) := by decide +kernel
theorem dX11_spells_26 : decode cX11_spells 26 = .ok (.invokevirtual 115, 3) := by decide +kernel
theorem dX11_spells_29 : decode cX11_spells 29 = .ok (.istore 4, 2) := by decide +kernel
theorem dX11_spells_31 : decode cX11_spells 31 = .ok (.iload 4, 2) := by decide +kernel
theorem dX11_spells_33 : decode cX11_spells 33 = .ok (.ifCond .ne 6, 3) := by decide +kernel
theorem dX11_spells_36 : decode cX11_spells 36 = .ok (.goto 123, 3) := by decide +kernel
theorem dX11_spells_39 : decode cX11_spells 39 = .ok (.iload 4, 2) := by decide +kernel
theorem dX11_spells_41 : decode cX11_spells 41 = .ok (.ifCond .ge 12, 3) := by decide +kernel
theorem dX11_spells_44 : decode cX11_spells 44 = .ok (.aload_n 0, 1) := by decide +kernel
theorem dX11_spells_45 : decode cX11_spells 45 = .ok (.bipush 45, 2) := by decide +kernel
theorem dX11_spells_47 : decode cX11_spells 47 = .ok (.invokevirtual 370, 3) := by decide +kernel
theorem dX11_spells_50 : decode cX11_spells 50 = .ok (.goto 16, 3) := by decide +kernel
theorem dX11_spells_53 : decode cX11_spells 53 = .ok (.aload_n 0, 1) := by decide +kernel
theorem dX11_spells_54 : decode cX11_spells 54 = .ok (.getfield 367, 3) := by decide +kernel
theorem dX11_spells_57 : decode cX11_spells 57 = .ok (.ifCond .le 9, 3) := by decide +kernel
theorem dX11_spells_60 : decode cX11_spells 60 = .ok (.aload_n 0, 1) := by decide +kernel
theorem dX11_spells_61 : decode cX11_spells 61 = .ok (.bipush 43, 2) := by decide +kernel
theorem dX11_spells_63 : decode cX11_spells 63 = .ok (.invokevirtual 370, 3) := by decide +kernel
theorem dX11_spells_66 : decode cX11_spells 66 = .ok (.iload 4, 2) := by decide +kernel
theorem dX11_spells_68 : decode cX11_spells 68 = .ok (.ifCond .ge 9, 3) := by decide +kernel
theorem dX11_spells_71 : decode cX11_spells 71 = .ok (.iload 4, 2) := by decide +kernel
theorem dX11_spells_73 : decode cX11_spells 73 = .ok (.ineg, 1) := by decide +kernel
theorem dX11_spells_74 : decode cX11_spells 74 = .ok (.goto 5, 3) := by decide +kernel
theorem dX11_spells_77 : decode cX11_spells 77 = .ok (.iload 4, 2) := by decide +kernel
theorem dX11_spells_79 : decode cX11_spells 79 = .ok (.istore 4, 2) := by decide +kernel
theorem dX11_spells_81 : decode cX11_spells 81 = .ok (.iload 4, 2) := by decide +kernel
theorem dX11_spells_83 : decode cX11_spells 83 = .ok (.iconst 1, 1) := by decide +kernel
theorem dX11_spells_84 : decode cX11_spells 84 = .ok (.if_icmp .ne 7, 3) := by decide +kernel
theorem dX11_spells_87 : decode cX11_spells 87 = .ok (.iload_n 2, 1) := by decide +kernel
theorem dX11_spells_88 : decode cX11_spells 88 = .ok (.ifCond .ne 9, 3) := by decide +kernel
theorem dX11_spells_91 : decode cX11_spells 91 = .ok (.aload_n 0, 1) := by decide +kernel
theorem dX11_spells_92 : decode cX11_spells 92 = .ok (.iload 4, 2) := by decide +kernel
theorem dX11_spells_94 : decode cX11_spells 94 = .ok (.invokevirtual 373, 3) := by decide +kernel
theorem dX11_spells_97 : decode cX11_spells 97 = .ok (.iconst 0, 1) := by decide +kernel
theorem dX11_spells_98 : decode cX11_spells 98 = .ok (.istore 5, 2) := by decide +kernel
theorem dX11_spells_100 : decode cX11_spells 100 = .ok (.iload 5, 2) := by decide +kernel
theorem dX11_spells_102 : decode cX11_spells 102 = .ok (.iconst 3, 1) := by decide +kernel
theorem dX11_spells_103 : decode cX11_spells 103 = .ok (.if_icmp .ge 56, 3) := by decide +kernel
theorem dX11_spells_106 : decode cX11_spells 106 = .ok (.iload_n 2, 1) := by decide +kernel
theorem dX11_spells_107 : decode cX11_spells 107 = .ok (.iload_n 3, 1) := by decide +kernel
theorem dX11_spells_108 : decode cX11_spells 108 = .ok (.iload 5, 2) := by decide +kernel
theorem dX11_spells_110 : decode cX11_spells 110 = .ok (.invokestatic 17, 3) := by decide +kernel
theorem dX11_spells_113 : decode cX11_spells 113 = .ok (.istore 6, 2) := by decide +kernel
theorem dX11_spells_115 : decode cX11_spells 115 = .ok (.iload 6, 2) := by decide +kernel
theorem dX11_spells_117 : decode cX11_spells 117 = .ok (.ifCond .le 12, 3) := by decide +kernel
theorem dX11_spells_120 : decode cX11_spells 120 = .ok (.aload_n 0, 1) := by decide +kernel
theorem dX11_spells_121 : decode cX11_spells 121 = .ok (.bipush 97, 2) := by decide +kernel
theorem dX11_spells_123 : decode cX11_spells 123 = .ok (.iload 5, 2) := by decide +kernel
theorem dX11_spells_125 : decode cX11_spells 125 = .ok (.iadd, 1) := by decide +kernel
theorem dX11_spells_126 : decode cX11_spells 126 = .ok (.invokevirtual 370, 3) := by decide +kernel
theorem dX11_spells_129 : decode cX11_spells 129 = .ok (.iload 6, 2) := by decide +kernel
theorem dX11_spells_131 : decode cX11_spells 131 = .ok (.iconst 2, 1) := by decide +kernel
theorem dX11_spells_132 : decode cX11_spells 132 = .ok (.if_icmp .ge 6, 3) := by decide +kernel
theorem dX11_spells_135 : decode cX11_spells 135 = .ok (.goto 18, 3) := by decide +kernel
theorem dX11_spells_138 : decode cX11_spells 138 = .ok (.aload_n 0, 1) := by decide +kernel
theorem dX11_spells_139 : decode cX11_spells 139 = .ok (.bipush 94, 2) := by decide +kernel
theorem dX11_spells_141 : decode cX11_spells 141 = .ok (.invokevirtual 370, 3) := by decide +kernel
theorem dX11_spells_144 : decode cX11_spells 144 = .ok (.aload_n 0, 1) := by decide +kernel
theorem dX11_spells_145 : decode cX11_spells 145 = .ok (.bipush 48, 2) := by decide +kernel
theorem dX11_spells_147 : decode cX11_spells 147 = .ok (.iload 6, 2) := by decide +kernel
theorem dX11_spells_149 : decode cX11_spells 149 = .ok (.iadd, 1) := by decide +kernel
theorem dX11_spells_150 : decode cX11_spells 150 = .ok (.invokevirtual 370, 3) := by decide +kernel
theorem dX11_spells_153 : decode cX11_spells 153 = .ok (.iinc 5 1, 3) := by decide +kernel
theorem dX11_spells_156 : decode cX11_spells 156 = .ok (.goto (-56), 3) := by decide +kernel
theorem dX11_spells_159 : decode cX11_spells 159 = .ok (.iinc 3 1, 3) := by decide +kernel
theorem dX11_spells_162 : decode cX11_spells 162 = .ok (.goto (-148), 3) := by decide +kernel
theorem dX11_spells_165 : decode cX11_spells 165 = .ok (.aload_n 0, 1) := by decide +kernel
theorem dX11_spells_166 : decode cX11_spells 166 = .ok (.getfield 367, 3) := by decide +kernel
theorem dX11_spells_169 : decode cX11_spells 169 = .ok (.ifCond .ne 9, 3) := by decide +kernel
theorem dX11_spells_172 : decode cX11_spells 172 = .ok (.aload_n 0, 1) := by decide +kernel
theorem dX11_spells_173 : decode cX11_spells 173 = .ok (.bipush 48, 2) := by decide +kernel
theorem dX11_spells_175 : decode cX11_spells 175 = .ok (.invokevirtual 370, 3) := by decide +kernel
theorem dX11_spells_178 : decode cX11_spells 178 = .ok (.return_, 1) := by decide +kernel
theorem dX11_spelled_0 : decode cX11_spelled 0 = .ok (.aload_n 0, 1) := by decide +kernel
theorem dX11_spelled_1 : decode cX11_spelled 1 = .ok (.iload_n 1, 1) := by decide +kernel
theorem dX11_spelled_2 : decode cX11_spelled 2 = .ok (.invokevirtual 143, 3) := by decide +kernel
theorem dX11_spelled_5 : decode cX11_spelled 5 = .ok (.ifCond .ne 7, 3) := by decide +kernel
theorem dX11_spelled_8 : decode cX11_spelled 8 = .ok (.iconst (-1), 1) := by decide +kernel
theorem dX11_spelled_9 : decode cX11_spelled 9 = .ok (.goto 14, 3) := by decide +kernel
theorem dX11_spelled_12 : decode cX11_spelled 12 = .ok (.iload_n 2, 1) := by decide +kernel
theorem dX11_spelled_13 : decode cX11_spelled 13 = .ok (.iconst (-1), 1) := by decide +kernel
theorem dX11_spelled_14 : decode cX11_spelled 14 = .ok (.if_icmp .ge 8, 3) := by decide +kernel
theorem dX11_spelled_17 : decode cX11_spelled 17 = .ok (.bipush (-4), 2) := by decide +kernel
theorem dX11_spelled_19 : decode cX11_spelled 19 = .ok (.goto 4, 3) := by decide +kernel
theorem dX11_spelled_22 : decode cX11_spelled 22 = .ok (.iconst 0, 1) := by decide +kernel
theorem dX11_spelled_23 : decode cX11_spelled 23 = .ok (.istore_n 3, 1) := by decide +kernel
theorem dX11_spelled_24 : decode cX11_spelled 24 = .ok (.iload_n 3, 1) := by decide +kernel
theorem dX11_spelled_25 : decode cX11_spelled 25 = .ok (.ifCond .eq 9, 3) := by decide +kernel
theorem dX11_spelled_28 : decode cX11_spelled 28 = .ok (.aload_n 0, 1) := by decide +kernel
theorem dX11_spelled_29 : decode cX11_spelled 29 = .ok (.iload_n 3, 1) := by decide +kernel
theorem dX11_spelled_30 : decode cX11_spelled 30 = .ok (.invokevirtual 8, 3) := by decide +kernel
theorem dX11_spelled_33 : decode cX11_spelled 33 = .ok (.ireturn, 1) := by decide +kernel
theorem dX11_spelled_34 : decode cX11_spelled 34 = .ok (.aload_n 0, 1) := by decide +kernel
theorem dX11_spelled_35 : decode cX11_spelled 35 = .ok (.iload_n 1, 1) := by decide +kernel
theorem dX11_spelled_36 : decode cX11_spelled 36 = .ok (.invokevirtual 376, 3) := by decide +kernel
theorem dX11_spelled_39 : decode cX11_spelled 39 = .ok (.iload_n 2, 1) := by decide +kernel
theorem dX11_spelled_40 : decode cX11_spelled 40 = .ok (.ifCond .ge 10, 3) := by decide +kernel
theorem dX11_spelled_43 : decode cX11_spelled 43 = .ok (.aload_n 0, 1) := by decide +kernel
theorem dX11_spelled_44 : decode cX11_spelled 44 = .ok (.getfield 367, 3) := by decide +kernel
theorem dX11_spelled_47 : decode cX11_spelled 47 = .ok (.goto 22, 3) := by decide +kernel
theorem dX11_spelled_50 : decode cX11_spelled 50 = .ok (.iload_n 2, 1) := by decide +kernel
theorem dX11_spelled_51 : decode cX11_spelled 51 = .ok (.aload_n 0, 1) := by decide +kernel
theorem dX11_spelled_52 : decode cX11_spelled 52 = .ok (.getfield 367, 3) := by decide +kernel
theorem dX11_spelled_55 : decode cX11_spelled 55 = .ok (.if_icmp .ge 12, 3) := by decide +kernel
theorem dX11_spelled_58 : decode cX11_spelled 58 = .ok (.aload_n 0, 1) := by decide +kernel
theorem dX11_spelled_59 : decode cX11_spelled 59 = .ok (.getfield 79, 3) := by decide +kernel
theorem dX11_spelled_62 : decode cX11_spelled 62 = .ok (.iload_n 2, 1) := by decide +kernel
theorem dX11_spelled_63 : decode cX11_spelled 63 = .ok (.iaload, 1) := by decide +kernel
theorem dX11_spelled_64 : decode cX11_spelled 64 = .ok (.goto 5, 3) := by decide +kernel
theorem dX11_spelled_67 : decode cX11_spelled 67 = .ok (.bipush (-9), 2) := by decide +kernel
theorem dX11_spelled_69 : decode cX11_spelled 69 = .ok (.ireturn, 1) := by decide +kernel
theorem dX11_draw_0 : decode cX11_draw 0 = .ok (.aload_n 0, 1) := by decide +kernel
theorem dX11_draw_1 : decode cX11_draw 1 = .ok (.aload_n 0, 1) := by decide +kernel
theorem dX11_draw_2 : decode cX11_draw 2 = .ok (.getfield 379, 3) := by decide +kernel
theorem dX11_draw_5 : decode cX11_draw 5 = .ok (.ldc_w 382, 3) := by decide +kernel
theorem dX11_draw_8 : decode cX11_draw 8 = .ok (.imul, 1) := by decide +kernel
theorem dX11_draw_9 : decode cX11_draw 9 = .ok (.ldc_w 383, 3) := by decide +kernel
theorem dX11_draw_12 : decode cX11_draw 12 = .ok (.iadd, 1) := by decide +kernel
theorem dX11_draw_13 : decode cX11_draw 13 = .ok (.putfield 379, 3) := by decide +kernel
theorem dX11_draw_16 : decode cX11_draw 16 = .ok (.aload_n 0, 1) := by decide +kernel
theorem dX11_draw_17 : decode cX11_draw 17 = .ok (.getfield 379, 3) := by decide +kernel
theorem dX11_draw_20 : decode cX11_draw 20 = .ok (.ldc_w 384, 3) := by decide +kernel
theorem dX11_draw_23 : decode cX11_draw 23 = .ok (.iand, 1) := by decide +kernel
theorem dX11_draw_24 : decode cX11_draw 24 = .ok (.sipush 256, 3) := by decide +kernel
theorem dX11_draw_27 : decode cX11_draw 27 = .ok (.idiv, 1) := by decide +kernel
theorem dX11_draw_28 : decode cX11_draw 28 = .ok (.iload_n 1, 1) := by decide +kernel
theorem dX11_draw_29 : decode cX11_draw 29 = .ok (.irem, 1) := by decide +kernel
theorem dX11_draw_30 : decode cX11_draw 30 = .ok (.ireturn, 1) := by decide +kernel
theorem dX11_lots_0 : decode cX11_lots 0 = .ok (.aload_n 0, 1) := by decide +kernel
theorem dX11_lots_1 : decode cX11_lots 1 = .ok (.iload_n 1, 1) := by decide +kernel
theorem dX11_lots_2 : decode cX11_lots 2 = .ok (.invokevirtual 143, 3) := by decide +kernel
theorem dX11_lots_5 : decode cX11_lots 5 = .ok (.ifCond .ne 7, 3) := by decide +kernel
theorem dX11_lots_8 : decode cX11_lots 8 = .ok (.iconst (-1), 1) := by decide +kernel
theorem dX11_lots_9 : decode cX11_lots 9 = .ok (.goto 10, 3) := by decide +kernel
theorem dX11_lots_12 : decode cX11_lots 12 = .ok (.iload_n 2, 1) := by decide +kernel
theorem dX11_lots_13 : decode cX11_lots 13 = .ok (.iconst 1, 1) := by decide +kernel
theorem dX11_lots_14 : decode cX11_lots 14 = .ok (.bipush 50, 2) := by decide +kernel
theorem dX11_lots_16 : decode cX11_lots 16 = .ok (.invokestatic 154, 3) := by decide +kernel
theorem dX11_lots_19 : decode cX11_lots 19 = .ok (.istore 5, 2) := by decide +kernel
theorem dX11_lots_21 : decode cX11_lots 21 = .ok (.iload 5, 2) := by decide +kernel
theorem dX11_lots_23 : decode cX11_lots 23 = .ok (.ifCond .ne 17, 3) := by decide +kernel
theorem dX11_lots_26 : decode cX11_lots 26 = .ok (.iload 4, 2) := by decide +kernel
theorem dX11_lots_28 : decode cX11_lots 28 = .ok (.iconst 0, 1) := by decide +kernel
theorem dX11_lots_29 : decode cX11_lots 29 = .ok (.iconst 1, 1) := by decide +kernel
theorem dX11_lots_30 : decode cX11_lots 30 = .ok (.invokestatic 98, 3) := by decide +kernel
theorem dX11_lots_33 : decode cX11_lots 33 = .ok (.ifCond .ne 7, 3) := by decide +kernel
theorem dX11_lots_36 : decode cX11_lots 36 = .ok (.bipush (-2), 2) := by decide +kernel
theorem dX11_lots_38 : decode cX11_lots 38 = .ok (.istore 5, 2) := by decide +kernel
theorem dX11_lots_40 : decode cX11_lots 40 = .ok (.iload 5, 2) := by decide +kernel
theorem dX11_lots_42 : decode cX11_lots 42 = .ok (.ifCond .eq 10, 3) := by decide +kernel
theorem dX11_lots_45 : decode cX11_lots 45 = .ok (.aload_n 0, 1) := by decide +kernel
theorem dX11_lots_46 : decode cX11_lots 46 = .ok (.iload 5, 2) := by decide +kernel
theorem dX11_lots_48 : decode cX11_lots 48 = .ok (.invokevirtual 8, 3) := by decide +kernel
theorem dX11_lots_51 : decode cX11_lots 51 = .ok (.ireturn, 1) := by decide +kernel
theorem dX11_lots_52 : decode cX11_lots 52 = .ok (.aload_n 0, 1) := by decide +kernel
theorem dX11_lots_53 : decode cX11_lots 53 = .ok (.iload_n 3, 1) := by decide +kernel
theorem dX11_lots_54 : decode cX11_lots 54 = .ok (.putfield 379, 3) := by decide +kernel
theorem dX11_lots_57 : decode cX11_lots 57 = .ok (.iconst 0, 1) := by decide +kernel
theorem dX11_lots_58 : decode cX11_lots 58 = .ok (.istore 6, 2) := by decide +kernel
theorem dX11_lots_60 : decode cX11_lots 60 = .ok (.iconst 0, 1) := by decide +kernel
theorem dX11_lots_61 : decode cX11_lots 61 = .ok (.istore 7, 2) := by decide +kernel
theorem dX11_lots_63 : decode cX11_lots 63 = .ok (.iconst 0, 1) := by decide +kernel
theorem dX11_lots_64 : decode cX11_lots 64 = .ok (.istore 8, 2) := by decide +kernel
theorem dX11_lots_66 : decode cX11_lots 66 = .ok (.iload 8, 2) := by decide +kernel
theorem dX11_lots_68 : decode cX11_lots 68 = .ok (.iload_n 2, 1) := by decide +kernel
theorem dX11_lots_69 : decode cX11_lots 69 = .ok (.if_icmp .ge 76, 3) := by decide +kernel
theorem dX11_lots_72 : decode cX11_lots 72 = .ok (.aload_n 0, 1) := by decide +kernel
theorem dX11_lots_73 : decode cX11_lots 73 = .ok (.bipush 10, 2) := by decide +kernel
theorem dX11_lots_75 : decode cX11_lots 75 = .ok (.invokevirtual 385, 3) := by decide +kernel
theorem dX11_lots_78 : decode cX11_lots 78 = .ok (.istore 9, 2) := by decide +kernel
theorem dX11_lots_80 : decode cX11_lots 80 = .ok (.aload_n 0, 1) := by decide +kernel
theorem dX11_lots_81 : decode cX11_lots 81 = .ok (.bipush 10, 2) := by decide +kernel
theorem dX11_lots_83 : decode cX11_lots 83 = .ok (.invokevirtual 385, 3) := by decide +kernel
theorem dX11_lots_86 : decode cX11_lots 86 = .ok (.istore 10, 2) := by decide +kernel
theorem dX11_lots_88 : decode cX11_lots 88 = .ok (.aload_n 0, 1) := by decide +kernel
theorem dX11_lots_89 : decode cX11_lots 89 = .ok (.iload_n 1, 1) := by decide +kernel
theorem dX11_lots_90 : decode cX11_lots 90 = .ok (.iload 9, 2) := by decide +kernel
theorem dX11_lots_92 : decode cX11_lots 92 = .ok (.iload 10, 2) := by decide +kernel
theorem dX11_lots_94 : decode cX11_lots 94 = .ok (.aload_n 0, 1) := by decide +kernel
theorem dX11_lots_95 : decode cX11_lots 95 = .ok (.bipush 10, 2) := by decide +kernel
theorem dX11_lots_97 : decode cX11_lots 97 = .ok (.invokevirtual 385, 3) := by decide +kernel
theorem dX11_lots_100 : decode cX11_lots 100 = .ok (.invokevirtual 235, 3) := by decide +kernel
theorem dX11_lots_103 : decode cX11_lots 103 = .ok (.lstore 11, 2) := by decide +kernel
theorem dX11_lots_105 : decode cX11_lots 105 = .ok (.iload 6, 2) := by decide +kernel
theorem dX11_lots_107 : decode cX11_lots 107 = .ok (.lload 11, 2) := by decide +kernel
theorem dX11_lots_109 : decode cX11_lots 109 = .ok (.lconst 0, 1) := by decide +kernel
theorem dX11_lots_110 : decode cX11_lots 110 = .ok (.lcmp, 1) := by decide +kernel
theorem dX11_lots_111 : decode cX11_lots 111 = .ok (.ifCond .ge 7, 3) := by decide +kernel
theorem dX11_lots_114 : decode cX11_lots 114 = .ok (.iconst 1, 1) := by decide +kernel
theorem dX11_lots_115 : decode cX11_lots 115 = .ok (.goto 4, 3) := by decide +kernel
theorem dX11_lots_118 : decode cX11_lots 118 = .ok (.iconst 0, 1) := by decide +kernel
theorem dX11_lots_119 : decode cX11_lots 119 = .ok (.iadd, 1) := by decide +kernel
theorem dX11_lots_120 : decode cX11_lots 120 = .ok (.istore 6, 2) := by decide +kernel
theorem dX11_lots_122 : decode cX11_lots 122 = .ok (.iload 7, 2) := by decide +kernel
theorem dX11_lots_124 : decode cX11_lots 124 = .ok (.lload 11, 2) := by decide +kernel
theorem dX11_lots_126 : decode cX11_lots 126 = .ok (.lconst 0, 1) := by decide +kernel
theorem dX11_lots_127 : decode cX11_lots 127 = .ok (.lcmp, 1) := by decide +kernel
theorem dX11_lots_128 : decode cX11_lots 128 = .ok (.ifCond .ne 7, 3) := by decide +kernel
theorem dX11_lots_131 : decode cX11_lots 131 = .ok (.iconst 1, 1) := by decide +kernel
theorem dX11_lots_132 : decode cX11_lots 132 = .ok (.goto 4, 3) := by decide +kernel
theorem dX11_lots_135 : decode cX11_lots 135 = .ok (.iconst 0, 1) := by decide +kernel
theorem dX11_lots_136 : decode cX11_lots 136 = .ok (.iadd, 1) := by decide +kernel
theorem dX11_lots_137 : decode cX11_lots 137 = .ok (.istore 7, 2) := by decide +kernel
theorem dX11_lots_139 : decode cX11_lots 139 = .ok (.iinc 8 1, 3) := by decide +kernel
theorem dX11_lots_142 : decode cX11_lots 142 = .ok (.goto (-76), 3) := by decide +kernel
theorem dX11_lots_145 : decode cX11_lots 145 = .ok (.iload 4, 2) := by decide +kernel
theorem dX11_lots_147 : decode cX11_lots 147 = .ok (.ifCond .ne 8, 3) := by decide +kernel
theorem dX11_lots_150 : decode cX11_lots 150 = .ok (.iload 6, 2) := by decide +kernel
theorem dX11_lots_152 : decode cX11_lots 152 = .ok (.goto 5, 3) := by decide +kernel
theorem dX11_lots_155 : decode cX11_lots 155 = .ok (.iload 7, 2) := by decide +kernel
theorem dX11_lots_157 : decode cX11_lots 157 = .ok (.ireturn, 1) := by decide +kernel
theorem dX11_list_0 : decode cX11_list 0 = .ok (.iload_n 1, 1) := by decide +kernel
theorem dX11_list_1 : decode cX11_list 1 = .ok (.invokestatic 310, 3) := by decide +kernel
theorem dX11_list_4 : decode cX11_list 4 = .ok (.ifCond .ne 9, 3) := by decide +kernel
theorem dX11_list_7 : decode cX11_list 7 = .ok (.aload_n 0, 1) := by decide +kernel
theorem dX11_list_8 : decode cX11_list 8 = .ok (.iconst (-1), 1) := by decide +kernel
theorem dX11_list_9 : decode cX11_list 9 = .ok (.invokevirtual 8, 3) := by decide +kernel
theorem dX11_list_12 : decode cX11_list 12 = .ok (.ireturn, 1) := by decide +kernel
theorem dX11_list_13 : decode cX11_list 13 = .ok (.iload_n 2, 1) := by decide +kernel
theorem dX11_list_14 : decode cX11_list 14 = .ok (.bipush 40, 2) := by decide +kernel
theorem dX11_list_16 : decode cX11_list 16 = .ok (.if_icmp .le 10, 3) := by decide +kernel
theorem dX11_list_19 : decode cX11_list 19 = .ok (.aload_n 0, 1) := by decide +kernel
theorem dX11_list_20 : decode cX11_list 20 = .ok (.bipush (-6), 2) := by decide +kernel
theorem dX11_list_22 : decode cX11_list 22 = .ok (.invokevirtual 8, 3) := by decide +kernel
theorem dX11_list_25 : decode cX11_list 25 = .ok (.ireturn, 1) := by decide +kernel
theorem dX11_list_26 : decode cX11_list 26 = .ok (.iload_n 2, 1) := by decide +kernel
theorem dX11_list_27 : decode cX11_list 27 = .ok (.ifCond .ge 6, 3) := by decide +kernel
theorem dX11_list_30 : decode cX11_list 30 = .ok (.bipush (-14), 2) := by decide +kernel
theorem dX11_list_32 : decode cX11_list 32 = .ok (.ireturn, 1) := by decide +kernel
theorem dX11_list_33 : decode cX11_list 33 = .ok (.aload_n 0, 1) := by decide +kernel
theorem dX11_list_34 : decode cX11_list 34 = .ok (.getfield 82, 3) := by decide +kernel
theorem dX11_list_37 : decode cX11_list 37 = .ok (.iload_n 1, 1) := by decide +kernel
theorem dX11_list_38 : decode cX11_list 38 = .ok (.iload_n 2, 1) := by decide +kernel
theorem dX11_list_39 : decode cX11_list 39 = .ok (.iastore, 1) := by decide +kernel
theorem dX11_list_40 : decode cX11_list 40 = .ok (.iconst 0, 1) := by decide +kernel
theorem dX11_list_41 : decode cX11_list 41 = .ok (.istore_n 3, 1) := by decide +kernel
theorem dX11_list_42 : decode cX11_list 42 = .ok (.iload_n 3, 1) := by decide +kernel
theorem dX11_list_43 : decode cX11_list 43 = .ok (.bipush 40, 2) := by decide +kernel
theorem dX11_list_45 : decode cX11_list 45 = .ok (.if_icmp .ge 21, 3) := by decide +kernel
theorem dX11_list_48 : decode cX11_list 48 = .ok (.aload_n 0, 1) := by decide +kernel
theorem dX11_list_49 : decode cX11_list 49 = .ok (.getfield 85, 3) := by decide +kernel
theorem dX11_list_52 : decode cX11_list 52 = .ok (.bipush 40, 2) := by decide +kernel
theorem dX11_list_54 : decode cX11_list 54 = .ok (.iload_n 1, 1) := by decide +kernel
theorem dX11_list_55 : decode cX11_list 55 = .ok (.imul, 1) := by decide +kernel
theorem dX11_list_56 : decode cX11_list 56 = .ok (.iload_n 3, 1) := by decide +kernel
theorem dX11_list_57 : decode cX11_list 57 = .ok (.iadd, 1) := by decide +kernel
theorem dX11_list_58 : decode cX11_list 58 = .ok (.iconst 0, 1) := by decide +kernel
theorem dX11_list_59 : decode cX11_list 59 = .ok (.iastore, 1) := by decide +kernel
theorem dX11_list_60 : decode cX11_list 60 = .ok (.iinc 3 1, 3) := by decide +kernel
theorem dX11_list_63 : decode cX11_list 63 = .ok (.goto (-21), 3) := by decide +kernel
theorem dX11_list_66 : decode cX11_list 66 = .ok (.iconst 1, 1) := by decide +kernel
theorem dX11_list_67 : decode cX11_list 67 = .ok (.ireturn, 1) := by decide +kernel
theorem dX11_notPlace_0 : decode cX11_notPlace 0 = .ok (.aload_n 0, 1) := by decide +kernel
theorem dX11_notPlace_1 : decode cX11_notPlace 1 = .ok (.getfield 82, 3) := by decide +kernel
theorem dX11_notPlace_4 : decode cX11_notPlace 4 = .ok (.iload_n 1, 1) := by decide +kernel
theorem dX11_notPlace_5 : decode cX11_notPlace 5 = .ok (.iaload, 1) := by decide +kernel
theorem dX11_notPlace_6 : decode cX11_notPlace 6 = .ok (.ifCond .ge 8, 3) := by decide +kernel
theorem dX11_notPlace_9 : decode cX11_notPlace 9 = .ok (.bipush (-11), 2) := by decide +kernel
theorem dX11_notPlace_11 : decode cX11_notPlace 11 = .ok (.goto 25, 3) := by decide +kernel
theorem dX11_notPlace_14 : decode cX11_notPlace 14 = .ok (.iload_n 2, 1) := by decide +kernel
theorem dX11_notPlace_15 : decode cX11_notPlace 15 = .ok (.iconst 0, 1) := by decide +kernel
theorem dX11_notPlace_16 : decode cX11_notPlace 16 = .ok (.aload_n 0, 1) := by decide +kernel
theorem dX11_notPlace_17 : decode cX11_notPlace 17 = .ok (.getfield 82, 3) := by decide +kernel
theorem dX11_notPlace_20 : decode cX11_notPlace 20 = .ok (.iload_n 1, 1) := by decide +kernel
theorem dX11_notPlace_21 : decode cX11_notPlace 21 = .ok (.iaload, 1) := by decide +kernel
theorem dX11_notPlace_22 : decode cX11_notPlace 22 = .ok (.iconst 1, 1) := by decide +kernel
theorem dX11_notPlace_23 : decode cX11_notPlace 23 = .ok (.isub, 1) := by decide +kernel
theorem dX11_notPlace_24 : decode cX11_notPlace 24 = .ok (.invokestatic 98, 3) := by decide +kernel
theorem dX11_notPlace_27 : decode cX11_notPlace 27 = .ok (.ifCond .ne 8, 3) := by decide +kernel
theorem dX11_notPlace_30 : decode cX11_notPlace 30 = .ok (.bipush (-13), 2) := by decide +kernel
theorem dX11_notPlace_32 : decode cX11_notPlace 32 = .ok (.goto 4, 3) := by decide +kernel
theorem dX11_notPlace_35 : decode cX11_notPlace 35 = .ok (.iconst 0, 1) := by decide +kernel
theorem dX11_notPlace_36 : decode cX11_notPlace 36 = .ok (.ireturn, 1) := by decide +kernel
theorem dX11_put_0 : decode cX11_put 0 = .ok (.iload_n 1, 1) := by decide +kernel
theorem dX11_put_1 : decode cX11_put 1 = .ok (.invokestatic 310, 3) := by decide +kernel
theorem dX11_put_4 : decode cX11_put 4 = .ok (.ifCond .ne 9, 3) := by decide +kernel
theorem dX11_put_7 : decode cX11_put 7 = .ok (.aload_n 0, 1) := by decide +kernel
theorem dX11_put_8 : decode cX11_put 8 = .ok (.iconst (-1), 1) := by decide +kernel
theorem dX11_put_9 : decode cX11_put 9 = .ok (.invokevirtual 8, 3) := by decide +kernel
theorem dX11_put_12 : decode cX11_put 12 = .ok (.ireturn, 1) := by decide +kernel
theorem dX11_put_13 : decode cX11_put 13 = .ok (.aload_n 0, 1) := by decide +kernel
theorem dX11_put_14 : decode cX11_put 14 = .ok (.iload_n 1, 1) := by decide +kernel
theorem dX11_put_15 : decode cX11_put 15 = .ok (.iload_n 2, 1) := by decide +kernel
theorem dX11_put_16 : decode cX11_put 16 = .ok (.invokevirtual 388, 3) := by decide +kernel
theorem dX11_put_19 : decode cX11_put 19 = .ok (.istore 4, 2) := by decide +kernel
theorem dX11_put_21 : decode cX11_put 21 = .ok (.iload 4, 2) := by decide +kernel
theorem dX11_put_23 : decode cX11_put 23 = .ok (.ifCond .eq 6, 3) := by decide +kernel
theorem dX11_put_26 : decode cX11_put 26 = .ok (.iload 4, 2) := by decide +kernel
theorem dX11_put_28 : decode cX11_put 28 = .ok (.ireturn, 1) := by decide +kernel
theorem dX11_put_29 : decode cX11_put 29 = .ok (.aload_n 0, 1) := by decide +kernel
theorem dX11_put_30 : decode cX11_put 30 = .ok (.getfield 85, 3) := by decide +kernel
theorem dX11_put_33 : decode cX11_put 33 = .ok (.bipush 40, 2) := by decide +kernel
theorem dX11_put_35 : decode cX11_put 35 = .ok (.iload_n 1, 1) := by decide +kernel
theorem dX11_put_36 : decode cX11_put 36 = .ok (.imul, 1) := by decide +kernel
theorem dX11_put_37 : decode cX11_put 37 = .ok (.iload_n 2, 1) := by decide +kernel
theorem dX11_put_38 : decode cX11_put 38 = .ok (.iadd, 1) := by decide +kernel
theorem dX11_put_39 : decode cX11_put 39 = .ok (.iload_n 3, 1) := by decide +kernel
theorem dX11_put_40 : decode cX11_put 40 = .ok (.iastore, 1) := by decide +kernel
theorem dX11_put_41 : decode cX11_put 41 = .ok (.iconst 1, 1) := by decide +kernel
theorem dX11_put_42 : decode cX11_put 42 = .ok (.ireturn, 1) := by decide +kernel
theorem dX11_look_0 : decode cX11_look 0 = .ok (.iload_n 1, 1) := by decide +kernel
theorem dX11_look_1 : decode cX11_look 1 = .ok (.invokestatic 310, 3) := by decide +kernel
theorem dX11_look_4 : decode cX11_look 4 = .ok (.ifCond .ne 9, 3) := by decide +kernel
theorem dX11_look_7 : decode cX11_look 7 = .ok (.aload_n 0, 1) := by decide +kernel
theorem dX11_look_8 : decode cX11_look 8 = .ok (.iconst (-1), 1) := by decide +kernel
theorem dX11_look_9 : decode cX11_look 9 = .ok (.invokevirtual 231, 3) := by decide +kernel
theorem dX11_look_12 : decode cX11_look 12 = .ok (.lreturn, 1) := by decide +kernel
theorem dX11_look_13 : decode cX11_look 13 = .ok (.aload_n 0, 1) := by decide +kernel
theorem dX11_look_14 : decode cX11_look 14 = .ok (.iload_n 1, 1) := by decide +kernel
theorem dX11_look_15 : decode cX11_look 15 = .ok (.iload_n 2, 1) := by decide +kernel
theorem dX11_look_16 : decode cX11_look 16 = .ok (.invokevirtual 388, 3) := by decide +kernel
theorem dX11_look_19 : decode cX11_look 19 = .ok (.istore_n 3, 1) := by decide +kernel
theorem dX11_look_20 : decode cX11_look 20 = .ok (.iload_n 3, 1) := by decide +kernel
theorem dX11_look_21 : decode cX11_look 21 = .ok (.ifCond .eq 12, 3) := by decide +kernel
theorem dX11_look_24 : decode cX11_look 24 = .ok (.ldc2_w 12, 3) := by decide +kernel
theorem dX11_look_27 : decode cX11_look 27 = .ok (.iload_n 3, 1) := by decide +kernel
theorem dX11_look_28 : decode cX11_look 28 = .ok (.i2l, 1) := by decide +kernel
theorem dX11_look_29 : decode cX11_look 29 = .ok (.lsub, 1) := by decide +kernel
theorem dX11_look_30 : decode cX11_look 30 = .ok (.goto 15, 3) := by decide +kernel
theorem dX11_look_33 : decode cX11_look 33 = .ok (.aload_n 0, 1) := by decide +kernel
theorem dX11_look_34 : decode cX11_look 34 = .ok (.getfield 85, 3) := by decide +kernel
theorem dX11_look_37 : decode cX11_look 37 = .ok (.bipush 40, 2) := by decide +kernel
theorem dX11_look_39 : decode cX11_look 39 = .ok (.iload_n 1, 1) := by decide +kernel
theorem dX11_look_40 : decode cX11_look 40 = .ok (.imul, 1) := by decide +kernel
theorem dX11_look_41 : decode cX11_look 41 = .ok (.iload_n 2, 1) := by decide +kernel
theorem dX11_look_42 : decode cX11_look 42 = .ok (.iadd, 1) := by decide +kernel
theorem dX11_look_43 : decode cX11_look 43 = .ok (.iaload, 1) := by decide +kernel
theorem dX11_look_44 : decode cX11_look 44 = .ok (.i2l, 1) := by decide +kernel
theorem dX11_look_45 : decode cX11_look 45 = .ok (.lreturn, 1) := by decide +kernel
theorem dX11_lays_0 : decode cX11_lays 0 = .ok (.iload_n 1, 1) := by decide +kernel
theorem dX11_lays_1 : decode cX11_lays 1 = .ok (.invokestatic 310, 3) := by decide +kernel
theorem dX11_lays_4 : decode cX11_lays 4 = .ok (.ifCond .eq 11, 3) := by decide +kernel
theorem dX11_lays_7 : decode cX11_lays 7 = .ok (.aload_n 0, 1) := by decide +kernel
theorem dX11_lays_8 : decode cX11_lays 8 = .ok (.iload_n 3, 1) := by decide +kernel
theorem dX11_lays_9 : decode cX11_lays 9 = .ok (.invokevirtual 143, 3) := by decide +kernel
theorem dX11_lays_12 : decode cX11_lays 12 = .ok (.ifCond .ne 9, 3) := by decide +kernel
theorem dX11_lays_15 : decode cX11_lays 15 = .ok (.aload_n 0, 1) := by decide +kernel
theorem dX11_lays_16 : decode cX11_lays 16 = .ok (.iconst (-1), 1) := by decide +kernel
theorem dX11_lays_17 : decode cX11_lays 17 = .ok (.invokevirtual 8, 3) := by decide +kernel
theorem dX11_lays_20 : decode cX11_lays 20 = .ok (.ireturn, 1) := by decide +kernel
theorem dX11_lays_21 : decode cX11_lays 21 = .ok (.aload_n 0, 1) := by decide +kernel
theorem dX11_lays_22 : decode cX11_lays 22 = .ok (.getfield 36, 3) := by decide +kernel
theorem dX11_lays_25 : decode cX11_lays 25 = .ok (.iload_n 3, 1) := by decide +kernel
theorem dX11_lays_26 : decode cX11_lays 26 = .ok (.iaload, 1) := by decide +kernel
theorem dX11_lays_27 : decode cX11_lays 27 = .ok (.invokestatic 102, 3) := by decide +kernel
theorem dX11_lays_30 : decode cX11_lays 30 = .ok (.istore 4, 2) := by decide +kernel
theorem dX11_lays_32 : decode cX11_lays 32 = .ok (.aload_n 0, 1) := by decide +kernel
theorem dX11_lays_33 : decode cX11_lays 33 = .ok (.getfield 82, 3) := by decide +kernel
theorem dX11_lays_36 : decode cX11_lays 36 = .ok (.iload_n 1, 1) := by decide +kernel
theorem dX11_lays_37 : decode cX11_lays 37 = .ok (.iaload, 1) := by decide +kernel
theorem dX11_lays_38 : decode cX11_lays 38 = .ok (.ifCond .ge 6, 3) := by decide +kernel
theorem dX11_lays_41 : decode cX11_lays 41 = .ok (.bipush (-11), 2) := by decide +kernel
theorem dX11_lays_43 : decode cX11_lays 43 = .ok (.ireturn, 1) := by decide +kernel
theorem dX11_lays_44 : decode cX11_lays 44 = .ok (.iload_n 2, 1) := by decide +kernel
theorem dX11_lays_45 : decode cX11_lays 45 = .ok (.ifCond .lt 16, 3) := by decide +kernel
theorem dX11_lays_48 : decode cX11_lays 48 = .ok (.iload_n 2, 1) := by decide +kernel
theorem dX11_lays_49 : decode cX11_lays 49 = .ok (.aload_n 0, 1) := by decide +kernel
theorem dX11_lays_50 : decode cX11_lays 50 = .ok (.getfield 82, 3) := by decide +kernel
theorem dX11_lays_53 : decode cX11_lays 53 = .ok (.iload_n 1, 1) := by decide +kernel
theorem dX11_lays_54 : decode cX11_lays 54 = .ok (.iaload, 1) := by decide +kernel
theorem dX11_lays_55 : decode cX11_lays 55 = .ok (.iload 4, 2) := by decide +kernel
theorem dX11_lays_57 : decode cX11_lays 57 = .ok (.isub, 1) := by decide +kernel
theorem dX11_lays_58 : decode cX11_lays 58 = .ok (.if_icmp .le 6, 3) := by decide +kernel
theorem dX11_lays_61 : decode cX11_lays 61 = .ok (.bipush (-13), 2) := by decide +kernel
theorem dX11_lays_63 : decode cX11_lays 63 = .ok (.ireturn, 1) := by decide +kernel
theorem dX11_lays_64 : decode cX11_lays 64 = .ok (.iconst 0, 1) := by decide +kernel
theorem dX11_lays_65 : decode cX11_lays 65 = .ok (.istore 5, 2) := by decide +kernel
theorem dX11_lays_67 : decode cX11_lays 67 = .ok (.iload 5, 2) := by decide +kernel
theorem dX11_lays_69 : decode cX11_lays 69 = .ok (.iload 4, 2) := by decide +kernel
theorem dX11_lays_71 : decode cX11_lays 71 = .ok (.if_icmp .ge 30, 3) := by decide +kernel
theorem dX11_lays_74 : decode cX11_lays 74 = .ok (.aload_n 0, 1) := by decide +kernel
theorem dX11_lays_75 : decode cX11_lays 75 = .ok (.getfield 85, 3) := by decide +kernel
theorem dX11_lays_78 : decode cX11_lays 78 = .ok (.bipush 40, 2) := by decide +kernel
theorem dX11_lays_80 : decode cX11_lays 80 = .ok (.iload_n 1, 1) := by decide +kernel
theorem dX11_lays_81 : decode cX11_lays 81 = .ok (.imul, 1) := by decide +kernel
theorem dX11_lays_82 : decode cX11_lays 82 = .ok (.iload_n 2, 1) := by decide +kernel
theorem dX11_lays_83 : decode cX11_lays 83 = .ok (.iadd, 1) := by decide +kernel
theorem dX11_lays_84 : decode cX11_lays 84 = .ok (.iload 5, 2) := by decide +kernel
theorem dX11_lays_86 : decode cX11_lays 86 = .ok (.iadd, 1) := by decide +kernel
theorem dX11_lays_87 : decode cX11_lays 87 = .ok (.aload_n 0, 1) := by decide +kernel
theorem dX11_lays_88 : decode cX11_lays 88 = .ok (.iload_n 3, 1) := by decide +kernel
theorem dX11_lays_89 : decode cX11_lays 89 = .ok (.iload 5, 2) := by decide +kernel
theorem dX11_lays_91 : decode cX11_lays 91 = .ok (.invokevirtual 115, 3) := by decide +kernel
theorem dX11_lays_94 : decode cX11_lays 94 = .ok (.iastore, 1) := by decide +kernel
theorem dX11_lays_95 : decode cX11_lays 95 = .ok (.iinc 5 1, 3) := by decide +kernel
theorem dX11_lays_98 : decode cX11_lays 98 = .ok (.goto (-31), 3) := by decide +kernel
theorem dX11_lays_101 : decode cX11_lays 101 = .ok (.iload 4, 2) := by decide +kernel
theorem dX11_lays_103 : decode cX11_lays 103 = .ok (.ireturn, 1) := by decide +kernel
theorem dX11_judge_0 : decode cX11_judge 0 = .ok (.iload_n 1, 1) := by decide +kernel
theorem dX11_judge_1 : decode cX11_judge 1 = .ok (.invokestatic 310, 3) := by decide +kernel
theorem dX11_judge_4 : decode cX11_judge 4 = .ok (.ifCond .eq 11, 3) := by decide +kernel
theorem dX11_judge_7 : decode cX11_judge 7 = .ok (.aload_n 0, 1) := by decide +kernel
theorem dX11_judge_8 : decode cX11_judge 8 = .ok (.iload_n 2, 1) := by decide +kernel
theorem dX11_judge_9 : decode cX11_judge 9 = .ok (.invokevirtual 143, 3) := by decide +kernel
theorem dX11_judge_12 : decode cX11_judge 12 = .ok (.ifCond .ne 9, 3) := by decide +kernel
theorem dX11_judge_15 : decode cX11_judge 15 = .ok (.aload_n 0, 1) := by decide +kernel
theorem dX11_judge_16 : decode cX11_judge 16 = .ok (.iconst (-1), 1) := by decide +kernel
theorem dX11_judge_17 : decode cX11_judge 17 = .ok (.invokevirtual 8, 3) := by decide +kernel
theorem dX11_judge_20 : decode cX11_judge 20 = .ok (.ireturn, 1) := by decide +kernel
theorem dX11_judge_21 : decode cX11_judge 21 = .ok (.aload_n 0, 1) := by decide +kernel
theorem dX11_judge_22 : decode cX11_judge 22 = .ok (.getfield 82, 3) := by decide +kernel
theorem dX11_judge_25 : decode cX11_judge 25 = .ok (.iload_n 1, 1) := by decide +kernel
theorem dX11_judge_26 : decode cX11_judge 26 = .ok (.iaload, 1) := by decide +kernel
theorem dX11_judge_27 : decode cX11_judge 27 = .ok (.ifCond .ge 6, 3) := by decide +kernel
theorem dX11_judge_30 : decode cX11_judge 30 = .ok (.bipush (-11), 2) := by decide +kernel
theorem dX11_judge_32 : decode cX11_judge 32 = .ok (.ireturn, 1) := by decide +kernel
theorem dX11_judge_33 : decode cX11_judge 33 = .ok (.iconst 0, 1) := by decide +kernel
theorem dX11_judge_34 : decode cX11_judge 34 = .ok (.istore_n 3, 1) := by decide +kernel
theorem dX11_judge_35 : decode cX11_judge 35 = .ok (.iload_n 3, 1) := by decide +kernel
theorem dX11_judge_36 : decode cX11_judge 36 = .ok (.aload_n 0, 1) := by decide +kernel
theorem dX11_judge_37 : decode cX11_judge 37 = .ok (.getfield 82, 3) := by decide +kernel
theorem dX11_judge_40 : decode cX11_judge 40 = .ok (.iload_n 1, 1) := by decide +kernel
theorem dX11_judge_41 : decode cX11_judge 41 = .ok (.iaload, 1) := by decide +kernel
theorem dX11_judge_42 : decode cX11_judge 42 = .ok (.if_icmp .ge 40, 3) := by decide +kernel
theorem dX11_judge_45 : decode cX11_judge 45 = .ok (.aload_n 0, 1) := by decide +kernel
theorem dX11_judge_46 : decode cX11_judge 46 = .ok (.iload_n 2, 1) := by decide +kernel
theorem dX11_judge_47 : decode cX11_judge 47 = .ok (.iload_n 3, 1) := by decide +kernel
theorem dX11_judge_48 : decode cX11_judge 48 = .ok (.invokevirtual 111, 3) := by decide +kernel
theorem dX11_judge_51 : decode cX11_judge 51 = .ok (.ifCond .eq 23, 3) := by decide +kernel
theorem dX11_judge_54 : decode cX11_judge 54 = .ok (.aload_n 0, 1) := by decide +kernel
theorem dX11_judge_55 : decode cX11_judge 55 = .ok (.getfield 85, 3) := by decide +kernel
theorem dX11_judge_58 : decode cX11_judge 58 = .ok (.bipush 40, 2) := by decide +kernel
theorem dX11_judge_60 : decode cX11_judge 60 = .ok (.iload_n 1, 1) := by decide +kernel
theorem dX11_judge_61 : decode cX11_judge 61 = .ok (.imul, 1) := by decide +kernel
theorem dX11_judge_62 : decode cX11_judge 62 = .ok (.iload_n 3, 1) := by decide +kernel
theorem dX11_judge_63 : decode cX11_judge 63 = .ok (.iadd, 1) := by decide +kernel
theorem dX11_judge_64 : decode cX11_judge 64 = .ok (.iaload, 1) := by decide +kernel
theorem dX11_judge_65 : decode cX11_judge 65 = .ok (.aload_n 0, 1) := by decide +kernel
theorem dX11_judge_66 : decode cX11_judge 66 = .ok (.iload_n 2, 1) := by decide +kernel
theorem dX11_judge_67 : decode cX11_judge 67 = .ok (.iload_n 3, 1) := by decide +kernel
theorem dX11_judge_68 : decode cX11_judge 68 = .ok (.invokevirtual 115, 3) := by decide +kernel
theorem dX11_judge_71 : decode cX11_judge 71 = .ok (.if_icmp .eq 5, 3) := by decide +kernel
theorem dX11_judge_74 : decode cX11_judge 74 = .ok (.iload_n 3, 1) := by decide +kernel
theorem dX11_judge_75 : decode cX11_judge 75 = .ok (.ireturn, 1) := by decide +kernel
theorem dX11_judge_76 : decode cX11_judge 76 = .ok (.iinc 3 1, 3) := by decide +kernel
theorem dX11_judge_79 : decode cX11_judge 79 = .ok (.goto (-44), 3) := by decide +kernel
theorem dX11_judge_82 : decode cX11_judge 82 = .ok (.bipush (-9), 2) := by decide +kernel
theorem dX11_judge_84 : decode cX11_judge 84 = .ok (.ireturn, 1) := by decide +kernel
theorem dX11_passOne_0 : decode cX11_passOne 0 = .ok (.aload_n 0, 1) := by decide +kernel
theorem dX11_passOne_1 : decode cX11_passOne 1 = .ok (.getfield 391, 3) := by decide +kernel
theorem dX11_passOne_4 : decode cX11_passOne 4 = .ok (.ifCond .eq 7, 3) := by decide +kernel
theorem dX11_passOne_7 : decode cX11_passOne 7 = .ok (.iload_n 1, 1) := by decide +kernel
theorem dX11_passOne_8 : decode cX11_passOne 8 = .ok (.goto 12, 3) := by decide +kernel
theorem dX11_passOne_11 : decode cX11_passOne 11 = .ok (.aload_n 0, 1) := by decide +kernel
theorem dX11_passOne_12 : decode cX11_passOne 12 = .ok (.getfield 88, 3) := by decide +kernel
theorem dX11_passOne_15 : decode cX11_passOne 15 = .ok (.aload_n 0, 1) := by decide +kernel
theorem dX11_passOne_16 : decode cX11_passOne 16 = .ok (.getfield 395, 3) := by decide +kernel
theorem dX11_passOne_19 : decode cX11_passOne 19 = .ok (.iaload, 1) := by decide +kernel
theorem dX11_passOne_20 : decode cX11_passOne 20 = .ok (.istore_n 2, 1) := by decide +kernel
theorem dX11_passOne_21 : decode cX11_passOne 21 = .ok (.aload_n 0, 1) := by decide +kernel
theorem dX11_passOne_22 : decode cX11_passOne 22 = .ok (.getfield 88, 3) := by decide +kernel
theorem dX11_passOne_25 : decode cX11_passOne 25 = .ok (.aload_n 0, 1) := by decide +kernel
theorem dX11_passOne_26 : decode cX11_passOne 26 = .ok (.getfield 395, 3) := by decide +kernel
theorem dX11_passOne_29 : decode cX11_passOne 29 = .ok (.iload_n 2, 1) := by decide +kernel
theorem dX11_passOne_30 : decode cX11_passOne 30 = .ok (.iastore, 1) := by decide +kernel
theorem dX11_passOne_31 : decode cX11_passOne 31 = .ok (.aload_n 0, 1) := by decide +kernel
theorem dX11_passOne_32 : decode cX11_passOne 32 = .ok (.dup, 1) := by decide +kernel
theorem dX11_passOne_33 : decode cX11_passOne 33 = .ok (.getfield 395, 3) := by decide +kernel
theorem dX11_passOne_36 : decode cX11_passOne 36 = .ok (.iconst 1, 1) := by decide +kernel
theorem dX11_passOne_37 : decode cX11_passOne 37 = .ok (.iadd, 1) := by decide +kernel
theorem dX11_passOne_38 : decode cX11_passOne 38 = .ok (.putfield 395, 3) := by decide +kernel
theorem dX11_passOne_41 : decode cX11_passOne 41 = .ok (.iload_n 2, 1) := by decide +kernel
theorem dX11_passOne_42 : decode cX11_passOne 42 = .ok (.ireturn, 1) := by decide +kernel
theorem dX11_passesAll_0 : decode cX11_passesAll 0 = .ok (.aload_n 0, 1) := by decide +kernel
theorem dX11_passesAll_1 : decode cX11_passesAll 1 = .ok (.iload_n 1, 1) := by decide +kernel
theorem dX11_passesAll_2 : decode cX11_passesAll 2 = .ok (.putfield 391, 3) := by decide +kernel
theorem dX11_passesAll_5 : decode cX11_passesAll 5 = .ok (.aload_n 0, 1) := by decide +kernel
theorem dX11_passesAll_6 : decode cX11_passesAll 6 = .ok (.iconst 0, 1) := by decide +kernel
theorem dX11_passesAll_7 : decode cX11_passesAll 7 = .ok (.putfield 395, 3) := by decide +kernel
theorem dX11_passesAll_10 : decode cX11_passesAll 10 = .ok (.aload_n 0, 1) := by decide +kernel
theorem dX11_passesAll_11 : decode cX11_passesAll 11 = .ok (.aload_n 0, 1) := by decide +kernel
theorem dX11_passesAll_12 : decode cX11_passesAll 12 = .ok (.aload_n 0, 1) := by decide +kernel
theorem dX11_passesAll_13 : decode cX11_passesAll 13 = .ok (.getfield 95, 3) := by decide +kernel
theorem dX11_passesAll_16 : decode cX11_passesAll 16 = .ok (.invokevirtual 398, 3) := by decide +kernel
theorem dX11_passesAll_19 : decode cX11_passesAll 19 = .ok (.putfield 95, 3) := by decide +kernel
theorem dX11_passesAll_22 : decode cX11_passesAll 22 = .ok (.iconst 0, 1) := by decide +kernel
theorem dX11_passesAll_23 : decode cX11_passesAll 23 = .ok (.istore_n 2, 1) := by decide +kernel
theorem dX11_passesAll_24 : decode cX11_passesAll 24 = .ok (.iload_n 2, 1) := by decide +kernel
theorem dX11_passesAll_25 : decode cX11_passesAll 25 = .ok (.bipush 6, 2) := by decide +kernel
theorem dX11_passesAll_27 : decode cX11_passesAll 27 = .ok (.if_icmp .ge 57, 3) := by decide +kernel
theorem dX11_passesAll_30 : decode cX11_passesAll 30 = .ok (.aload_n 0, 1) := by decide +kernel
theorem dX11_passesAll_31 : decode cX11_passesAll 31 = .ok (.getfield 30, 3) := by decide +kernel
theorem dX11_passesAll_34 : decode cX11_passesAll 34 = .ok (.iload_n 2, 1) := by decide +kernel
theorem dX11_passesAll_35 : decode cX11_passesAll 35 = .ok (.aload_n 0, 1) := by decide +kernel
theorem dX11_passesAll_36 : decode cX11_passesAll 36 = .ok (.aload_n 0, 1) := by decide +kernel
theorem dX11_passesAll_37 : decode cX11_passesAll 37 = .ok (.getfield 30, 3) := by decide +kernel
theorem dX11_passesAll_40 : decode cX11_passesAll 40 = .ok (.iload_n 2, 1) := by decide +kernel
theorem dX11_passesAll_41 : decode cX11_passesAll 41 = .ok (.iaload, 1) := by decide +kernel
theorem dX11_passesAll_42 : decode cX11_passesAll 42 = .ok (.invokevirtual 398, 3) := by decide +kernel
theorem dX11_passesAll_45 : decode cX11_passesAll 45 = .ok (.iastore, 1) := by decide +kernel
theorem dX11_passesAll_46 : decode cX11_passesAll 46 = .ok (.aload_n 0, 1) := by decide +kernel
theorem dX11_passesAll_47 : decode cX11_passesAll 47 = .ok (.getfield 33, 3) := by decide +kernel
theorem dX11_passesAll_50 : decode cX11_passesAll 50 = .ok (.iload_n 2, 1) := by decide +kernel
theorem dX11_passesAll_51 : decode cX11_passesAll 51 = .ok (.aload_n 0, 1) := by decide +kernel
theorem dX11_passesAll_52 : decode cX11_passesAll 52 = .ok (.aload_n 0, 1) := by decide +kernel
theorem dX11_passesAll_53 : decode cX11_passesAll 53 = .ok (.getfield 33, 3) := by decide +kernel
theorem dX11_passesAll_56 : decode cX11_passesAll 56 = .ok (.iload_n 2, 1) := by decide +kernel
theorem dX11_passesAll_57 : decode cX11_passesAll 57 = .ok (.iaload, 1) := by decide +kernel
theorem dX11_passesAll_58 : decode cX11_passesAll 58 = .ok (.invokevirtual 398, 3) := by decide +kernel
theorem dX11_passesAll_61 : decode cX11_passesAll 61 = .ok (.iastore, 1) := by decide +kernel
theorem dX11_passesAll_62 : decode cX11_passesAll 62 = .ok (.aload_n 0, 1) := by decide +kernel
theorem dX11_passesAll_63 : decode cX11_passesAll 63 = .ok (.getfield 36, 3) := by decide +kernel
theorem dX11_passesAll_66 : decode cX11_passesAll 66 = .ok (.iload_n 2, 1) := by decide +kernel
theorem dX11_passesAll_67 : decode cX11_passesAll 67 = .ok (.aload_n 0, 1) := by decide +kernel
theorem dX11_passesAll_68 : decode cX11_passesAll 68 = .ok (.aload_n 0, 1) := by decide +kernel
theorem dX11_passesAll_69 : decode cX11_passesAll 69 = .ok (.getfield 36, 3) := by decide +kernel
theorem dX11_passesAll_72 : decode cX11_passesAll 72 = .ok (.iload_n 2, 1) := by decide +kernel
theorem dX11_passesAll_73 : decode cX11_passesAll 73 = .ok (.iaload, 1) := by decide +kernel
theorem dX11_passesAll_74 : decode cX11_passesAll 74 = .ok (.invokevirtual 398, 3) := by decide +kernel
theorem dX11_passesAll_77 : decode cX11_passesAll 77 = .ok (.iastore, 1) := by decide +kernel
theorem dX11_passesAll_78 : decode cX11_passesAll 78 = .ok (.iinc 2 1, 3) := by decide +kernel
theorem dX11_passesAll_81 : decode cX11_passesAll 81 = .ok (.goto (-57), 3) := by decide +kernel
theorem dX11_passesAll_84 : decode cX11_passesAll 84 = .ok (.iconst 0, 1) := by decide +kernel
theorem dX11_passesAll_85 : decode cX11_passesAll 85 = .ok (.istore_n 2, 1) := by decide +kernel
theorem dX11_passesAll_86 : decode cX11_passesAll 86 = .ok (.iload_n 2, 1) := by decide +kernel
theorem dX11_passesAll_87 : decode cX11_passesAll 87 = .ok (.sipush 168, 3) := by decide +kernel
theorem dX11_passesAll_90 : decode cX11_passesAll 90 = .ok (.if_icmp .ge 25, 3) := by decide +kernel
theorem dX11_passesAll_93 : decode cX11_passesAll 93 = .ok (.aload_n 0, 1) := by decide +kernel
theorem dX11_passesAll_94 : decode cX11_passesAll 94 = .ok (.getfield 27, 3) := by decide +kernel
theorem dX11_passesAll_97 : decode cX11_passesAll 97 = .ok (.iload_n 2, 1) := by decide +kernel
theorem dX11_passesAll_98 : decode cX11_passesAll 98 = .ok (.aload_n 0, 1) := by decide +kernel
theorem dX11_passesAll_99 : decode cX11_passesAll 99 = .ok (.aload_n 0, 1) := by decide +kernel
theorem dX11_passesAll_100 : decode cX11_passesAll 100 = .ok (.getfield 27, 3) := by decide +kernel
theorem dX11_passesAll_103 : decode cX11_passesAll 103 = .ok (.iload_n 2, 1) := by decide +kernel
theorem dX11_passesAll_104 : decode cX11_passesAll 104 = .ok (.iaload, 1) := by decide +kernel
theorem dX11_passesAll_105 : decode cX11_passesAll 105 = .ok (.invokevirtual 398, 3) := by decide +kernel
theorem dX11_passesAll_108 : decode cX11_passesAll 108 = .ok (.iastore, 1) := by decide +kernel
theorem dX11_passesAll_109 : decode cX11_passesAll 109 = .ok (.iinc 2 1, 3) := by decide +kernel
theorem dX11_passesAll_112 : decode cX11_passesAll 112 = .ok (.goto (-26), 3) := by decide +kernel
theorem dX11_passesAll_115 : decode cX11_passesAll 115 = .ok (.return_, 1) := by decide +kernel
theorem dX11_image_0 : decode cX11_image 0 = .ok (.aload_n 0, 1) := by decide +kernel
theorem dX11_image_1 : decode cX11_image 1 = .ok (.iconst 1, 1) := by decide +kernel
theorem dX11_image_2 : decode cX11_image 2 = .ok (.invokevirtual 401, 3) := by decide +kernel
theorem dX11_image_5 : decode cX11_image 5 = .ok (.aload_n 0, 1) := by decide +kernel
theorem dX11_image_6 : decode cX11_image 6 = .ok (.aload_n 0, 1) := by decide +kernel
theorem dX11_image_7 : decode cX11_image 7 = .ok (.getfield 95, 3) := by decide +kernel
theorem dX11_image_10 : decode cX11_image 10 = .ok (.putfield 91, 3) := by decide +kernel
theorem dX11_image_13 : decode cX11_image 13 = .ok (.aload_n 0, 1) := by decide +kernel
theorem dX11_image_14 : decode cX11_image 14 = .ok (.getfield 95, 3) := by decide +kernel
theorem dX11_image_17 : decode cX11_image 17 = .ok (.ireturn, 1) := by decide +kernel
theorem dX11_back_0 : decode cX11_back 0 = .ok (.aload_n 0, 1) := by decide +kernel
theorem dX11_back_1 : decode cX11_back 1 = .ok (.getfield 91, 3) := by decide +kernel
theorem dX11_back_4 : decode cX11_back 4 = .ok (.ifCond .ge 10, 3) := by decide +kernel
theorem dX11_back_7 : decode cX11_back 7 = .ok (.aload_n 0, 1) := by decide +kernel
theorem dX11_back_8 : decode cX11_back 8 = .ok (.bipush (-3), 2) := by decide +kernel
theorem dX11_back_10 : decode cX11_back 10 = .ok (.invokevirtual 8, 3) := by decide +kernel
theorem dX11_back_13 : decode cX11_back 13 = .ok (.ireturn, 1) := by decide +kernel
theorem dX11_back_14 : decode cX11_back 14 = .ok (.aload_n 0, 1) := by decide +kernel
theorem dX11_back_15 : decode cX11_back 15 = .ok (.iconst 0, 1) := by decide +kernel
theorem dX11_back_16 : decode cX11_back 16 = .ok (.invokevirtual 401, 3) := by decide +kernel
theorem dX11_back_19 : decode cX11_back 19 = .ok (.aload_n 0, 1) := by decide +kernel
theorem dX11_back_20 : decode cX11_back 20 = .ok (.iconst 0, 1) := by decide +kernel
theorem dX11_back_21 : decode cX11_back 21 = .ok (.putfield 119, 3) := by decide +kernel
theorem dX11_back_24 : decode cX11_back 24 = .ok (.aload_n 0, 1) := by decide +kernel
theorem dX11_back_25 : decode cX11_back 25 = .ok (.getfield 95, 3) := by decide +kernel
theorem dX11_back_28 : decode cX11_back 28 = .ok (.ireturn, 1) := by decide +kernel
theorem dX11_clearOnes_0 : decode cX11_clearOnes 0 = .ok (.iconst 0, 1) := by decide +kernel
theorem dX11_clearOnes_1 : decode cX11_clearOnes 1 = .ok (.istore_n 1, 1) := by decide +kernel
theorem dX11_clearOnes_2 : decode cX11_clearOnes 2 = .ok (.iconst 0, 1) := by decide +kernel
theorem dX11_clearOnes_3 : decode cX11_clearOnes 3 = .ok (.istore_n 2, 1) := by decide +kernel
theorem dX11_clearOnes_4 : decode cX11_clearOnes 4 = .ok (.iload_n 2, 1) := by decide +kernel
theorem dX11_clearOnes_5 : decode cX11_clearOnes 5 = .ok (.aload_n 0, 1) := by decide +kernel
theorem dX11_clearOnes_6 : decode cX11_clearOnes 6 = .ok (.getfield 95, 3) := by decide +kernel
theorem dX11_clearOnes_9 : decode cX11_clearOnes 9 = .ok (.if_icmp .ge 28, 3) := by decide +kernel
theorem dX11_clearOnes_12 : decode cX11_clearOnes 12 = .ok (.iload_n 1, 1) := by decide +kernel
theorem dX11_clearOnes_13 : decode cX11_clearOnes 13 = .ok (.aload_n 0, 1) := by decide +kernel
theorem dX11_clearOnes_14 : decode cX11_clearOnes 14 = .ok (.iload_n 2, 1) := by decide +kernel
theorem dX11_clearOnes_15 : decode cX11_clearOnes 15 = .ok (.iconst 0, 1) := by decide +kernel
theorem dX11_clearOnes_16 : decode cX11_clearOnes 16 = .ok (.invokevirtual 224, 3) := by decide +kernel
theorem dX11_clearOnes_19 : decode cX11_clearOnes 19 = .ok (.ifCond .ne 9, 3) := by decide +kernel
theorem dX11_clearOnes_22 : decode cX11_clearOnes 22 = .ok (.iconst 1, 1) := by decide +kernel
theorem dX11_clearOnes_23 : decode cX11_clearOnes 23 = .ok (.iload_n 2, 1) := by decide +kernel
theorem dX11_clearOnes_24 : decode cX11_clearOnes 24 = .ok (.ishl, 1) := by decide +kernel
theorem dX11_clearOnes_25 : decode cX11_clearOnes 25 = .ok (.goto 4, 3) := by decide +kernel
theorem dX11_clearOnes_28 : decode cX11_clearOnes 28 = .ok (.iconst 0, 1) := by decide +kernel
theorem dX11_clearOnes_29 : decode cX11_clearOnes 29 = .ok (.ior, 1) := by decide +kernel
theorem dX11_clearOnes_30 : decode cX11_clearOnes 30 = .ok (.istore_n 1, 1) := by decide +kernel
theorem dX11_clearOnes_31 : decode cX11_clearOnes 31 = .ok (.iinc 2 1, 3) := by decide +kernel
theorem dX11_clearOnes_34 : decode cX11_clearOnes 34 = .ok (.goto (-30), 3) := by decide +kernel
theorem dX11_clearOnes_37 : decode cX11_clearOnes 37 = .ok (.iload_n 1, 1) := by decide +kernel
theorem dX11_clearOnes_38 : decode cX11_clearOnes 38 = .ok (.ireturn, 1) := by decide +kernel
theorem dX11_allTerms_0 : decode cX11_allTerms 0 = .ok (.iconst 0, 1) := by decide +kernel
theorem dX11_allTerms_1 : decode cX11_allTerms 1 = .ok (.istore_n 1, 1) := by decide +kernel
theorem dX11_allTerms_2 : decode cX11_allTerms 2 = .ok (.iconst 0, 1) := by decide +kernel
theorem dX11_allTerms_3 : decode cX11_allTerms 3 = .ok (.istore_n 2, 1) := by decide +kernel
theorem dX11_allTerms_4 : decode cX11_allTerms 4 = .ok (.iload_n 2, 1) := by decide +kernel
theorem dX11_allTerms_5 : decode cX11_allTerms 5 = .ok (.aload_n 0, 1) := by decide +kernel
theorem dX11_allTerms_6 : decode cX11_allTerms 6 = .ok (.getfield 95, 3) := by decide +kernel
theorem dX11_allTerms_9 : decode cX11_allTerms 9 = .ok (.if_icmp .ge 21, 3) := by decide +kernel
theorem dX11_allTerms_12 : decode cX11_allTerms 12 = .ok (.iload_n 1, 1) := by decide +kernel
theorem dX11_allTerms_13 : decode cX11_allTerms 13 = .ok (.aload_n 0, 1) := by decide +kernel
theorem dX11_allTerms_14 : decode cX11_allTerms 14 = .ok (.getfield 36, 3) := by decide +kernel
theorem dX11_allTerms_17 : decode cX11_allTerms 17 = .ok (.iload_n 2, 1) := by decide +kernel
theorem dX11_allTerms_18 : decode cX11_allTerms 18 = .ok (.iaload, 1) := by decide +kernel
theorem dX11_allTerms_19 : decode cX11_allTerms 19 = .ok (.invokestatic 102, 3) := by decide +kernel
theorem dX11_allTerms_22 : decode cX11_allTerms 22 = .ok (.iadd, 1) := by decide +kernel
theorem dX11_allTerms_23 : decode cX11_allTerms 23 = .ok (.istore_n 1, 1) := by decide +kernel
theorem dX11_allTerms_24 : decode cX11_allTerms 24 = .ok (.iinc 2 1, 3) := by decide +kernel
theorem dX11_allTerms_27 : decode cX11_allTerms 27 = .ok (.goto (-23), 3) := by decide +kernel
theorem dX11_allTerms_30 : decode cX11_allTerms 30 = .ok (.iload_n 1, 1) := by decide +kernel
theorem dX11_allTerms_31 : decode cX11_allTerms 31 = .ok (.ireturn, 1) := by decide +kernel
theorem dX11_count_0 : decode cX11_count 0 = .ok (.iload_n 1, 1) := by decide +kernel
theorem dX11_count_1 : decode cX11_count 1 = .ok (.bipush 11, 2) := by decide +kernel
theorem dX11_count_3 : decode cX11_count 3 = .ok (.bipush 16, 2) := by decide +kernel
theorem dX11_count_5 : decode cX11_count 5 = .ok (.invokestatic 98, 3) := by decide +kernel
theorem dX11_count_8 : decode cX11_count 8 = .ok (.ifCond .eq 13, 3) := by decide +kernel
theorem dX11_count_11 : decode cX11_count 11 = .ok (.aload_n 0, 1) := by decide +kernel
theorem dX11_count_12 : decode cX11_count 12 = .ok (.getfield 1, 3) := by decide +kernel
theorem dX11_count_15 : decode cX11_count 15 = .ok (.iload_n 1, 1) := by decide +kernel
theorem dX11_count_16 : decode cX11_count 16 = .ok (.bipush 10, 2) := by decide +kernel
theorem dX11_count_18 : decode cX11_count 18 = .ok (.isub, 1) := by decide +kernel
theorem dX11_count_19 : decode cX11_count 19 = .ok (.iaload, 1) := by decide +kernel
theorem dX11_count_20 : decode cX11_count 20 = .ok (.ireturn, 1) := by decide +kernel
theorem dX11_count_21 : decode cX11_count 21 = .ok (.iload_n 1, 1) := by decide +kernel
theorem dX11_count_22 : decode cX11_count 22 = .ok (.tableswitch 59 0 4 #[34, 39, 44, 49, 54], 34) := by decide +kernel
theorem dX11_count_56 : decode cX11_count 56 = .ok (.aload_n 0, 1) := by decide +kernel
theorem dX11_count_57 : decode cX11_count 57 = .ok (.getfield 95, 3) := by decide +kernel
theorem dX11_count_60 : decode cX11_count 60 = .ok (.ireturn, 1) := by decide +kernel
theorem dX11_count_61 : decode cX11_count 61 = .ok (.aload_n 0, 1) := by decide +kernel
theorem dX11_count_62 : decode cX11_count 62 = .ok (.getfield 169, 3) := by decide +kernel
theorem dX11_count_65 : decode cX11_count 65 = .ok (.ireturn, 1) := by decide +kernel
theorem dX11_count_66 : decode cX11_count 66 = .ok (.aload_n 0, 1) := by decide +kernel
theorem dX11_count_67 : decode cX11_count 67 = .ok (.invokevirtual 405, 3) := by decide +kernel
theorem dX11_count_70 : decode cX11_count 70 = .ok (.ireturn, 1) := by decide +kernel
theorem dX11_count_71 : decode cX11_count 71 = .ok (.aload_n 0, 1) := by decide +kernel
theorem dX11_count_72 : decode cX11_count 72 = .ok (.getfield 119, 3) := by decide +kernel
theorem dX11_count_75 : decode cX11_count 75 = .ok (.ireturn, 1) := by decide +kernel
theorem dX11_count_76 : decode cX11_count 76 = .ok (.aload_n 0, 1) := by decide +kernel
theorem dX11_count_77 : decode cX11_count 77 = .ok (.invokevirtual 408, 3) := by decide +kernel
theorem dX11_count_80 : decode cX11_count 80 = .ok (.ireturn, 1) := by decide +kernel
theorem dX11_count_81 : decode cX11_count 81 = .ok (.bipush (-9), 2) := by decide +kernel
theorem dX11_count_83 : decode cX11_count 83 = .ok (.ireturn, 1) := by decide +kernel
