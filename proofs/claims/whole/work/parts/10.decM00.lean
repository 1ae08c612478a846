theorem dX11_no_0 : decode cX11_no 0 = .ok (.aload_n 0, 1) := by decide +kernel
theorem dX11_no_1 : decode cX11_no 1 = .ok (.getfield 1, 3) := by decide +kernel
theorem dX11_no_4 : decode cX11_no 4 = .ok (.iload_n 1, 1) := by decide +kernel
theorem dX11_no_5 : decode cX11_no 5 = .ok (.ineg, 1) := by decide +kernel
theorem dX11_no_6 : decode cX11_no 6 = .ok (.dup2, 1) := by decide +kernel
theorem dX11_no_7 : decode cX11_no 7 = .ok (.iaload, 1) := by decide +kernel
theorem dX11_no_8 : decode cX11_no 8 = .ok (.iconst 1, 1) := by decide +kernel
theorem dX11_no_9 : decode cX11_no 9 = .ok (.iadd, 1) := by decide +kernel
theorem dX11_no_10 : decode cX11_no 10 = .ok (.iastore, 1) := by decide +kernel
theorem dX11_no_11 : decode cX11_no 11 = .ok (.iload_n 1, 1) := by decide +kernel
theorem dX11_no_12 : decode cX11_no 12 = .ok (.ireturn, 1) := by decide +kernel
theorem dX11_far_0 : decode cX11_far 0 = .ok (.ldc 7, 2) := by decide +kernel
theorem dX11_far_2 : decode cX11_far 2 = .ok (.aload_n 0, 1) := by decide +kernel
theorem dX11_far_3 : decode cX11_far 3 = .ok (.iload_n 1, 1) := by decide +kernel
theorem dX11_far_4 : decode cX11_far 4 = .ok (.invokevirtual 8, 3) := by decide +kernel
theorem dX11_far_7 : decode cX11_far 7 = .ok (.isub, 1) := by decide +kernel
theorem dX11_far_8 : decode cX11_far 8 = .ok (.ireturn, 1) := by decide +kernel
theorem dX11_lower_0 : decode cX11_lower 0 = .ok (.ldc2_w 12, 3) := by decide +kernel
theorem dX11_lower_3 : decode cX11_lower 3 = .ok (.aload_n 0, 1) := by decide +kernel
theorem dX11_lower_4 : decode cX11_lower 4 = .ok (.iload_n 1, 1) := by decide +kernel
theorem dX11_lower_5 : decode cX11_lower 5 = .ok (.invokevirtual 8, 3) := by decide +kernel
theorem dX11_lower_8 : decode cX11_lower 8 = .ok (.i2l, 1) := by decide +kernel
theorem dX11_lower_9 : decode cX11_lower 9 = .ok (.lsub, 1) := by decide +kernel
theorem dX11_lower_10 : decode cX11_lower 10 = .ok (.lreturn, 1) := by decide +kernel
theorem dX11_isIn_0 : decode cX11_isIn 0 = .ok (.iload_n 0, 1) := by decide +kernel
theorem dX11_isIn_1 : decode cX11_isIn 1 = .ok (.iload_n 1, 1) := by decide +kernel
theorem dX11_isIn_2 : decode cX11_isIn 2 = .ok (.if_icmp .lt 12, 3) := by decide +kernel
theorem dX11_isIn_5 : decode cX11_isIn 5 = .ok (.iload_n 0, 1) := by decide +kernel
theorem dX11_isIn_6 : decode cX11_isIn 6 = .ok (.iload_n 2, 1) := by decide +kernel
theorem dX11_isIn_7 : decode cX11_isIn 7 = .ok (.if_icmp .gt 7, 3) := by decide +kernel
theorem dX11_isIn_10 : decode cX11_isIn 10 = .ok (.iconst 1, 1) := by decide +kernel
theorem dX11_isIn_11 : decode cX11_isIn 11 = .ok (.goto 4, 3) := by decide +kernel
theorem dX11_isIn_14 : decode cX11_isIn 14 = .ok (.iconst 0, 1) := by decide +kernel
theorem dX11_isIn_15 : decode cX11_isIn 15 = .ok (.ireturn, 1) := by decide +kernel
theorem dX11_bound_0 : decode cX11_bound 0 = .ok (.iload_n 0, 1) := by decide +kernel
theorem dX11_bound_1 : decode cX11_bound 1 = .ok (.iload_n 1, 1) := by decide +kernel
theorem dX11_bound_2 : decode cX11_bound 2 = .ok (.if_icmp .ge 8, 3) := by decide +kernel
theorem dX11_bound_5 : decode cX11_bound 5 = .ok (.bipush (-4), 2) := by decide +kernel
theorem dX11_bound_7 : decode cX11_bound 7 = .ok (.goto 14, 3) := by decide +kernel
theorem dX11_bound_10 : decode cX11_bound 10 = .ok (.iload_n 0, 1) := by decide +kernel
theorem dX11_bound_11 : decode cX11_bound 11 = .ok (.iload_n 2, 1) := by decide +kernel
theorem dX11_bound_12 : decode cX11_bound 12 = .ok (.if_icmp .le 8, 3) := by decide +kernel
theorem dX11_bound_15 : decode cX11_bound 15 = .ok (.bipush (-6), 2) := by decide +kernel
theorem dX11_bound_17 : decode cX11_bound 17 = .ok (.goto 4, 3) := by decide +kernel
theorem dX11_bound_20 : decode cX11_bound 20 = .ok (.iconst 0, 1) := by decide +kernel
theorem dX11_bound_21 : decode cX11_bound 21 = .ok (.ireturn, 1) := by decide +kernel
theorem dX11_termsOf_0 : decode cX11_termsOf 0 = .ok (.iload_n 0, 1) := by decide +kernel
theorem dX11_termsOf_1 : decode cX11_termsOf 1 = .ok (.iconst 1, 1) := by decide +kernel
theorem dX11_termsOf_2 : decode cX11_termsOf 2 = .ok (.iadd, 1) := by decide +kernel
theorem dX11_termsOf_3 : decode cX11_termsOf 3 = .ok (.iload_n 0, 1) := by decide +kernel
theorem dX11_termsOf_4 : decode cX11_termsOf 4 = .ok (.iconst 2, 1) := by decide +kernel
theorem dX11_termsOf_5 : decode cX11_termsOf 5 = .ok (.iadd, 1) := by decide +kernel
theorem dX11_termsOf_6 : decode cX11_termsOf 6 = .ok (.imul, 1) := by decide +kernel
theorem dX11_termsOf_7 : decode cX11_termsOf 7 = .ok (.iconst 2, 1) := by decide +kernel
theorem dX11_termsOf_8 : decode cX11_termsOf 8 = .ok (.idiv, 1) := by decide +kernel
theorem dX11_termsOf_9 : decode cX11_termsOf 9 = .ok (.ireturn, 1) := by decide +kernel
theorem dX11_termOf_0 : decode cX11_termOf 0 = .ok (.iload_n 0, 1) := by decide +kernel
theorem dX11_termOf_1 : decode cX11_termOf 1 = .ok (.iload_n 1, 1) := by decide +kernel
theorem dX11_termOf_2 : decode cX11_termOf 2 = .ok (.isub, 1) := by decide +kernel
theorem dX11_termOf_3 : decode cX11_termOf 3 = .ok (.iload_n 0, 1) := by decide +kernel
theorem dX11_termOf_4 : decode cX11_termOf 4 = .ok (.iload_n 1, 1) := by decide +kernel
theorem dX11_termOf_5 : decode cX11_termOf 5 = .ok (.isub, 1) := by decide +kernel
theorem dX11_termOf_6 : decode cX11_termOf 6 = .ok (.iconst 1, 1) := by decide +kernel
theorem dX11_termOf_7 : decode cX11_termOf 7 = .ok (.iadd, 1) := by decide +kernel
theorem dX11_termOf_8 : decode cX11_termOf 8 = .ok (.imul, 1) := by decide +kernel
theorem dX11_termOf_9 : decode cX11_termOf 9 = .ok (.iconst 2, 1) := by decide +kernel
theorem dX11_termOf_10 : decode cX11_termOf 10 = .ok (.idiv, 1) := by decide +kernel
theorem dX11_termOf_11 : decode cX11_termOf 11 = .ok (.iload_n 2, 1) := by decide +kernel
theorem dX11_termOf_12 : decode cX11_termOf 12 = .ok (.iadd, 1) := by decide +kernel
theorem dX11_termOf_13 : decode cX11_termOf 13 = .ok (.ireturn, 1) := by decide +kernel
theorem dX11_restOf_0 : decode cX11_restOf 0 = .ok (.iconst 0, 1) := by decide +kernel
theorem dX11_restOf_1 : decode cX11_restOf 1 = .ok (.istore_n 1, 1) := by decide +kernel
theorem dX11_restOf_2 : decode cX11_restOf 2 = .ok (.iload_n 1, 1) := by decide +kernel
theorem dX11_restOf_3 : decode cX11_restOf 3 = .ok (.iconst 1, 1) := by decide +kernel
theorem dX11_restOf_4 : decode cX11_restOf 4 = .ok (.iadd, 1) := by decide +kernel
theorem dX11_restOf_5 : decode cX11_restOf 5 = .ok (.iload_n 1, 1) := by decide +kernel
theorem dX11_restOf_6 : decode cX11_restOf 6 = .ok (.iconst 2, 1) := by decide +kernel
theorem dX11_restOf_7 : decode cX11_restOf 7 = .ok (.iadd, 1) := by decide +kernel
theorem dX11_restOf_8 : decode cX11_restOf 8 = .ok (.imul, 1) := by decide +kernel
theorem dX11_restOf_9 : decode cX11_restOf 9 = .ok (.iconst 2, 1) := by decide +kernel
theorem dX11_restOf_10 : decode cX11_restOf 10 = .ok (.idiv, 1) := by decide +kernel
theorem dX11_restOf_11 : decode cX11_restOf 11 = .ok (.iload_n 0, 1) := by decide +kernel
theorem dX11_restOf_12 : decode cX11_restOf 12 = .ok (.if_icmp .gt 9, 3) := by decide +kernel
theorem dX11_restOf_15 : decode cX11_restOf 15 = .ok (.iinc 1 1, 3) := by decide +kernel
theorem dX11_restOf_18 : decode cX11_restOf 18 = .ok (.goto (-16), 3) := by decide +kernel
theorem dX11_restOf_21 : decode cX11_restOf 21 = .ok (.iload_n 1, 1) := by decide +kernel
theorem dX11_restOf_22 : decode cX11_restOf 22 = .ok (.ireturn, 1) := by decide +kernel
theorem dX11_powerIn_0 : decode cX11_powerIn 0 = .ok (.iload_n 1, 1) := by decide +kernel
theorem dX11_powerIn_1 : decode cX11_powerIn 1 = .ok (.invokestatic 14, 3) := by decide +kernel
theorem dX11_powerIn_4 : decode cX11_powerIn 4 = .ok (.istore_n 3, 1) := by decide +kernel
theorem dX11_powerIn_5 : decode cX11_powerIn 5 = .ok (.iload_n 1, 1) := by decide +kernel
theorem dX11_powerIn_6 : decode cX11_powerIn 6 = .ok (.iload_n 3, 1) := by decide +kernel
theorem dX11_powerIn_7 : decode cX11_powerIn 7 = .ok (.iload_n 3, 1) := by decide +kernel
theorem dX11_powerIn_8 : decode cX11_powerIn 8 = .ok (.iconst 1, 1) := by decide +kernel
theorem dX11_powerIn_9 : decode cX11_powerIn 9 = .ok (.iadd, 1) := by decide +kernel
theorem dX11_powerIn_10 : decode cX11_powerIn 10 = .ok (.imul, 1) := by decide +kernel
theorem dX11_powerIn_11 : decode cX11_powerIn 11 = .ok (.iconst 2, 1) := by decide +kernel
theorem dX11_powerIn_12 : decode cX11_powerIn 12 = .ok (.idiv, 1) := by decide +kernel
theorem dX11_powerIn_13 : decode cX11_powerIn 13 = .ok (.isub, 1) := by decide +kernel
theorem dX11_powerIn_14 : decode cX11_powerIn 14 = .ok (.istore 4, 2) := by decide +kernel
theorem dX11_powerIn_16 : decode cX11_powerIn 16 = .ok (.iload_n 2, 1) := by decide +kernel
theorem dX11_powerIn_17 : decode cX11_powerIn 17 = .ok (.ifCond .ne 9, 3) := by decide +kernel
theorem dX11_powerIn_20 : decode cX11_powerIn 20 = .ok (.iload_n 0, 1) := by decide +kernel
theorem dX11_powerIn_21 : decode cX11_powerIn 21 = .ok (.iload_n 3, 1) := by decide +kernel
theorem dX11_powerIn_22 : decode cX11_powerIn 22 = .ok (.isub, 1) := by decide +kernel
theorem dX11_powerIn_23 : decode cX11_powerIn 23 = .ok (.goto 17, 3) := by decide +kernel
theorem dX11_powerIn_26 : decode cX11_powerIn 26 = .ok (.iload_n 2, 1) := by decide +kernel
theorem dX11_powerIn_27 : decode cX11_powerIn 27 = .ok (.iconst 1, 1) := by decide +kernel
theorem dX11_powerIn_28 : decode cX11_powerIn 28 = .ok (.if_icmp .ne 10, 3) := by decide +kernel
theorem dX11_powerIn_31 : decode cX11_powerIn 31 = .ok (.iload_n 3, 1) := by decide +kernel
theorem dX11_powerIn_32 : decode cX11_powerIn 32 = .ok (.iload 4, 2) := by decide +kernel
theorem dX11_powerIn_34 : decode cX11_powerIn 34 = .ok (.isub, 1) := by decide +kernel
theorem dX11_powerIn_35 : decode cX11_powerIn 35 = .ok (.goto 5, 3) := by decide +kernel
theorem dX11_powerIn_38 : decode cX11_powerIn 38 = .ok (.iload 4, 2) := by decide +kernel
theorem dX11_powerIn_40 : decode cX11_powerIn 40 = .ok (.ireturn, 1) := by decide +kernel
theorem dX11_isOn_0 : decode cX11_isOn 0 = .ok (.iconst 1, 1) := by decide +kernel
theorem dX11_isOn_1 : decode cX11_isOn 1 = .ok (.istore_n 3, 1) := by decide +kernel
theorem dX11_isOn_2 : decode cX11_isOn 2 = .ok (.iconst 0, 1) := by decide +kernel
theorem dX11_isOn_3 : decode cX11_isOn 3 = .ok (.istore 4, 2) := by decide +kernel
theorem dX11_isOn_5 : decode cX11_isOn 5 = .ok (.iload 4, 2) := by decide +kernel
theorem dX11_isOn_7 : decode cX11_isOn 7 = .ok (.iconst 3, 1) := by decide +kernel
theorem dX11_isOn_8 : decode cX11_isOn 8 = .ok (.if_icmp .ge 37, 3) := by decide +kernel
theorem dX11_isOn_11 : decode cX11_isOn 11 = .ok (.iload_n 3, 1) := by decide +kernel
theorem dX11_isOn_12 : decode cX11_isOn 12 = .ok (.iload_n 2, 1) := by decide +kernel
theorem dX11_isOn_13 : decode cX11_isOn 13 = .ok (.iload 4, 2) := by decide +kernel
theorem dX11_isOn_15 : decode cX11_isOn 15 = .ok (.ishr, 1) := by decide +kernel
theorem dX11_isOn_16 : decode cX11_isOn 16 = .ok (.iconst 1, 1) := by decide +kernel
theorem dX11_isOn_17 : decode cX11_isOn 17 = .ok (.iand, 1) := by decide +kernel
theorem dX11_isOn_18 : decode cX11_isOn 18 = .ok (.iconst 1, 1) := by decide +kernel
theorem dX11_isOn_19 : decode cX11_isOn 19 = .ok (.if_icmp .eq 13, 3) := by decide +kernel
theorem dX11_isOn_22 : decode cX11_isOn 22 = .ok (.iload_n 0, 1) := by decide +kernel
theorem dX11_isOn_23 : decode cX11_isOn 23 = .ok (.iload_n 1, 1) := by decide +kernel
theorem dX11_isOn_24 : decode cX11_isOn 24 = .ok (.iload 4, 2) := by decide +kernel
theorem dX11_isOn_26 : decode cX11_isOn 26 = .ok (.invokestatic 17, 3) := by decide +kernel
theorem dX11_isOn_29 : decode cX11_isOn 29 = .ok (.ifCond .ne 7, 3) := by decide +kernel
theorem dX11_isOn_32 : decode cX11_isOn 32 = .ok (.iconst 1, 1) := by decide +kernel
theorem dX11_isOn_33 : decode cX11_isOn 33 = .ok (.goto 4, 3) := by decide +kernel
theorem dX11_isOn_36 : decode cX11_isOn 36 = .ok (.iconst 0, 1) := by decide +kernel
theorem dX11_isOn_37 : decode cX11_isOn 37 = .ok (.iand, 1) := by decide +kernel
theorem dX11_isOn_38 : decode cX11_isOn 38 = .ok (.istore_n 3, 1) := by decide +kernel
theorem dX11_isOn_39 : decode cX11_isOn 39 = .ok (.iinc 4 1, 3) := by decide +kernel
theorem dX11_isOn_42 : decode cX11_isOn 42 = .ok (.goto (-37), 3) := by decide +kernel
theorem dX11_isOn_45 : decode cX11_isOn 45 = .ok (.iload_n 3, 1) := by decide +kernel
theorem dX11_isOn_46 : decode cX11_isOn 46 = .ok (.ireturn, 1) := by decide +kernel
theorem dX11_isForm_0 : decode cX11_isForm 0 = .ok (.iload_n 1, 1) := by decide +kernel
theorem dX11_isForm_1 : decode cX11_isForm 1 = .ok (.iconst 0, 1) := by decide +kernel
theorem dX11_isForm_2 : decode cX11_isForm 2 = .ok (.aload_n 0, 1) := by decide +kernel
theorem dX11_isForm_3 : decode cX11_isForm 3 = .ok (.getfield 95, 3) := by decide +kernel
theorem dX11_isForm_6 : decode cX11_isForm 6 = .ok (.iconst 1, 1) := by decide +kernel
theorem dX11_isForm_7 : decode cX11_isForm 7 = .ok (.isub, 1) := by decide +kernel
theorem dX11_isForm_8 : decode cX11_isForm 8 = .ok (.invokestatic 98, 3) := by decide +kernel
theorem dX11_isForm_11 : decode cX11_isForm 11 = .ok (.ireturn, 1) := by decide +kernel
theorem dX11_isSide_0 : decode cX11_isSide 0 = .ok (.iload_n 0, 1) := by decide +kernel
theorem dX11_isSide_1 : decode cX11_isSide 1 = .ok (.iconst 1, 1) := by decide +kernel
theorem dX11_isSide_2 : decode cX11_isSide 2 = .ok (.bipush 7, 2) := by decide +kernel
theorem dX11_isSide_4 : decode cX11_isSide 4 = .ok (.invokestatic 98, 3) := by decide +kernel
theorem dX11_isSide_7 : decode cX11_isSide 7 = .ok (.ireturn, 1) := by decide +kernel
theorem dX11_isSort_0 : decode cX11_isSort 0 = .ok (.iload_n 0, 1) := by decide +kernel
theorem dX11_isSort_1 : decode cX11_isSort 1 = .ok (.iconst 0, 1) := by decide +kernel
theorem dX11_isSort_2 : decode cX11_isSort 2 = .ok (.iconst 1, 1) := by decide +kernel
theorem dX11_isSort_3 : decode cX11_isSort 3 = .ok (.invokestatic 98, 3) := by decide +kernel
theorem dX11_isSort_6 : decode cX11_isSort 6 = .ok (.ireturn, 1) := by decide +kernel
theorem dX11_isTerm_0 : decode cX11_isTerm 0 = .ok (.iload_n 2, 1) := by decide +kernel
theorem dX11_isTerm_1 : decode cX11_isTerm 1 = .ok (.iconst 0, 1) := by decide +kernel
theorem dX11_isTerm_2 : decode cX11_isTerm 2 = .ok (.aload_n 0, 1) := by decide +kernel
theorem dX11_isTerm_3 : decode cX11_isTerm 3 = .ok (.getfield 36, 3) := by decide +kernel
theorem dX11_isTerm_6 : decode cX11_isTerm 6 = .ok (.iload_n 1, 1) := by decide +kernel
theorem dX11_isTerm_7 : decode cX11_isTerm 7 = .ok (.iaload, 1) := by decide +kernel
theorem dX11_isTerm_8 : decode cX11_isTerm 8 = .ok (.invokestatic 102, 3) := by decide +kernel
theorem dX11_isTerm_11 : decode cX11_isTerm 11 = .ok (.iconst 1, 1) := by decide +kernel
theorem dX11_isTerm_12 : decode cX11_isTerm 12 = .ok (.isub, 1) := by decide +kernel
theorem dX11_isTerm_13 : decode cX11_isTerm 13 = .ok (.invokestatic 98, 3) := by decide +kernel
theorem dX11_isTerm_16 : decode cX11_isTerm 16 = .ok (.ireturn, 1) := by decide +kernel
theorem dX11_toldAt_0 : decode cX11_toldAt 0 = .ok (.aload_n 0, 1) := by decide +kernel
theorem dX11_toldAt_1 : decode cX11_toldAt 1 = .ok (.getfield 27, 3) := by decide +kernel
theorem dX11_toldAt_4 : decode cX11_toldAt 4 = .ok (.bipush 28, 2) := by decide +kernel
theorem dX11_toldAt_6 : decode cX11_toldAt 6 = .ok (.iload_n 1, 1) := by decide +kernel
theorem dX11_toldAt_7 : decode cX11_toldAt 7 = .ok (.imul, 1) := by decide +kernel
theorem dX11_toldAt_8 : decode cX11_toldAt 8 = .ok (.aload_n 0, 1) := by decide +kernel
theorem dX11_toldAt_9 : decode cX11_toldAt 9 = .ok (.getfield 36, 3) := by decide +kernel
theorem dX11_toldAt_12 : decode cX11_toldAt 12 = .ok (.iload_n 1, 1) := by decide +kernel
theorem dX11_toldAt_13 : decode cX11_toldAt 13 = .ok (.iaload, 1) := by decide +kernel
theorem dX11_toldAt_14 : decode cX11_toldAt 14 = .ok (.iload_n 2, 1) := by decide +kernel
theorem dX11_toldAt_15 : decode cX11_toldAt 15 = .ok (.iload_n 3, 1) := by decide +kernel
theorem dX11_toldAt_16 : decode cX11_toldAt 16 = .ok (.invokestatic 105, 3) := by decide +kernel
theorem dX11_toldAt_19 : decode cX11_toldAt 19 = .ok (.iadd, 1) := by decide +kernel
theorem dX11_toldAt_20 : decode cX11_toldAt 20 = .ok (.iaload, 1) := by decide +kernel
theorem dX11_toldAt_21 : decode cX11_toldAt 21 = .ok (.ireturn, 1) := by decide +kernel
theorem dX11_coefficientOf_0 : decode cX11_coefficientOf 0 = .ok (.aload_n 0, 1) := by decide +kernel
theorem dX11_coefficientOf_1 : decode cX11_coefficientOf 1 = .ok (.getfield 36, 3) := by decide +kernel
theorem dX11_coefficientOf_4 : decode cX11_coefficientOf 4 = .ok (.iload_n 1, 1) := by decide +kernel
theorem dX11_coefficientOf_5 : decode cX11_coefficientOf 5 = .ok (.iaload, 1) := by decide +kernel
theorem dX11_coefficientOf_6 : decode cX11_coefficientOf 6 = .ok (.istore_n 3, 1) := by decide +kernel
theorem dX11_coefficientOf_7 : decode cX11_coefficientOf 7 = .ok (.iload_n 3, 1) := by decide +kernel
theorem dX11_coefficientOf_8 : decode cX11_coefficientOf 8 = .ok (.iload_n 2, 1) := by decide +kernel
theorem dX11_coefficientOf_9 : decode cX11_coefficientOf 9 = .ok (.iconst 0, 1) := by decide +kernel
theorem dX11_coefficientOf_10 : decode cX11_coefficientOf 10 = .ok (.invokestatic 17, 3) := by decide +kernel
theorem dX11_coefficientOf_13 : decode cX11_coefficientOf 13 = .ok (.istore 4, 2) := by decide +kernel
theorem dX11_coefficientOf_15 : decode cX11_coefficientOf 15 = .ok (.iload_n 3, 1) := by decide +kernel
theorem dX11_coefficientOf_16 : decode cX11_coefficientOf 16 = .ok (.iload_n 2, 1) := by decide +kernel
theorem dX11_coefficientOf_17 : decode cX11_coefficientOf 17 = .ok (.iconst 1, 1) := by decide +kernel
theorem dX11_coefficientOf_18 : decode cX11_coefficientOf 18 = .ok (.invokestatic 17, 3) := by decide +kernel
theorem dX11_coefficientOf_21 : decode cX11_coefficientOf 21 = .ok (.istore 5, 2) := by decide +kernel
theorem dX11_coefficientOf_23 : decode cX11_coefficientOf 23 = .ok (.iload_n 3, 1) := by decide +kernel
theorem dX11_coefficientOf_24 : decode cX11_coefficientOf 24 = .ok (.iload_n 2, 1) := by decide +kernel
theorem dX11_coefficientOf_25 : decode cX11_coefficientOf 25 = .ok (.iconst 2, 1) := by decide +kernel
theorem dX11_coefficientOf_26 : decode cX11_coefficientOf 26 = .ok (.invokestatic 17, 3) := by decide +kernel
theorem dX11_coefficientOf_29 : decode cX11_coefficientOf 29 = .ok (.istore 6, 2) := by decide +kernel
theorem dX11_coefficientOf_31 : decode cX11_coefficientOf 31 = .ok (.aload_n 0, 1) := by decide +kernel
theorem dX11_coefficientOf_32 : decode cX11_coefficientOf 32 = .ok (.getfield 30, 3) := by decide +kernel
theorem dX11_coefficientOf_35 : decode cX11_coefficientOf 35 = .ok (.iload_n 1, 1) := by decide +kernel
theorem dX11_coefficientOf_36 : decode cX11_coefficientOf 36 = .ok (.iaload, 1) := by decide +kernel
theorem dX11_coefficientOf_37 : decode cX11_coefficientOf 37 = .ok (.tableswitch 121 1 5 #[35, 45, 67, 84, 94], 35) := by decide +kernel
theorem dX11_coefficientOf_72 : decode cX11_coefficientOf 72 = .ok (.aload_n 0, 1) := by decide +kernel
theorem dX11_coefficientOf_73 : decode cX11_coefficientOf 73 = .ok (.iload_n 1, 1) := by decide +kernel
theorem dX11_coefficientOf_74 : decode cX11_coefficientOf 74 = .ok (.iload 5, 2) := by decide +kernel
theorem dX11_coefficientOf_76 : decode cX11_coefficientOf 76 = .ok (.iload 4, 2) := by decide +kernel
theorem dX11_coefficientOf_78 : decode cX11_coefficientOf 78 = .ok (.invokevirtual 108, 3) := by decide +kernel
theorem dX11_coefficientOf_81 : decode cX11_coefficientOf 81 = .ok (.ireturn, 1) := by decide +kernel
theorem dX11_coefficientOf_82 : decode cX11_coefficientOf 82 = .ok (.iload 4, 2) := by decide +kernel
theorem dX11_coefficientOf_84 : decode cX11_coefficientOf 84 = .ok (.iconst 2, 1) := by decide +kernel
theorem dX11_coefficientOf_85 : decode cX11_coefficientOf 85 = .ok (.irem, 1) := by decide +kernel
theorem dX11_coefficientOf_86 : decode cX11_coefficientOf 86 = .ok (.iconst 1, 1) := by decide +kernel
theorem dX11_coefficientOf_87 : decode cX11_coefficientOf 87 = .ok (.if_icmp .ne 7, 3) := by decide +kernel
theorem dX11_coefficientOf_90 : decode cX11_coefficientOf 90 = .ok (.iconst 0, 1) := by decide +kernel
theorem dX11_coefficientOf_91 : decode cX11_coefficientOf 91 = .ok (.goto 12, 3) := by decide +kernel
theorem dX11_coefficientOf_94 : decode cX11_coefficientOf 94 = .ok (.aload_n 0, 1) := by decide +kernel
theorem dX11_coefficientOf_95 : decode cX11_coefficientOf 95 = .ok (.iload_n 1, 1) := by decide +kernel
theorem dX11_coefficientOf_96 : decode cX11_coefficientOf 96 = .ok (.iload 4, 2) := by decide +kernel
theorem dX11_coefficientOf_98 : decode cX11_coefficientOf 98 = .ok (.iload 6, 2) := by decide +kernel
theorem dX11_coefficientOf_100 : decode cX11_coefficientOf 100 = .ok (.invokevirtual 108, 3) := by decide +kernel
theorem dX11_coefficientOf_103 : decode cX11_coefficientOf 103 = .ok (.ireturn, 1) := by decide +kernel
theorem dX11_coefficientOf_104 : decode cX11_coefficientOf 104 = .ok (.aload_n 0, 1) := by decide +kernel
theorem dX11_coefficientOf_105 : decode cX11_coefficientOf 105 = .ok (.iload_n 1, 1) := by decide +kernel
theorem dX11_coefficientOf_106 : decode cX11_coefficientOf 106 = .ok (.iload 4, 2) := by decide +kernel
theorem dX11_coefficientOf_108 : decode cX11_coefficientOf 108 = .ok (.iload 6, 2) := by decide +kernel
theorem dX11_coefficientOf_110 : decode cX11_coefficientOf 110 = .ok (.invokevirtual 108, 3) := by decide +kernel
theorem dX11_coefficientOf_113 : decode cX11_coefficientOf 113 = .ok (.aload_n 0, 1) := by decide +kernel
theorem dX11_coefficientOf_114 : decode cX11_coefficientOf 114 = .ok (.getfield 33, 3) := by decide +kernel
theorem dX11_coefficientOf_117 : decode cX11_coefficientOf 117 = .ok (.iload_n 1, 1) := by decide +kernel
theorem dX11_coefficientOf_118 : decode cX11_coefficientOf 118 = .ok (.iaload, 1) := by decide +kernel
theorem dX11_coefficientOf_119 : decode cX11_coefficientOf 119 = .ok (.isub, 1) := by decide +kernel
theorem dX11_coefficientOf_120 : decode cX11_coefficientOf 120 = .ok (.ireturn, 1) := by decide +kernel
theorem dX11_coefficientOf_121 : decode cX11_coefficientOf 121 = .ok (.aload_n 0, 1) := by decide +kernel
theorem dX11_coefficientOf_122 : decode cX11_coefficientOf 122 = .ok (.iload_n 1, 1) := by decide +kernel
theorem dX11_coefficientOf_123 : decode cX11_coefficientOf 123 = .ok (.iload 6, 2) := by decide +kernel
theorem dX11_coefficientOf_125 : decode cX11_coefficientOf 125 = .ok (.iload 5, 2) := by decide +kernel
theorem dX11_coefficientOf_127 : decode cX11_coefficientOf 127 = .ok (.invokevirtual 108, 3) := by decide +kernel
theorem dX11_coefficientOf_130 : decode cX11_coefficientOf 130 = .ok (.ireturn, 1) := by decide +kernel
theorem dX11_coefficientOf_131 : decode cX11_coefficientOf 131 = .ok (.iload 4, 2) := by decide +kernel
theorem dX11_coefficientOf_133 : decode cX11_coefficientOf 133 = .ok (.iconst 2, 1) := by decide +kernel
theorem dX11_coefficientOf_134 : decode cX11_coefficientOf 134 = .ok (.irem, 1) := by decide +kernel
theorem dX11_coefficientOf_135 : decode cX11_coefficientOf 135 = .ok (.iconst 1, 1) := by decide +kernel
theorem dX11_coefficientOf_136 : decode cX11_coefficientOf 136 = .ok (.if_icmp .eq 8, 3) := by decide +kernel
theorem dX11_coefficientOf_139 : decode cX11_coefficientOf 139 = .ok (.iload 6, 2) := by decide +kernel
theorem dX11_coefficientOf_141 : decode cX11_coefficientOf 141 = .ok (.ifCond .eq 7, 3) := by decide +kernel
theorem dX11_coefficientOf_144 : decode cX11_coefficientOf 144 = .ok (.iconst 0, 1) := by decide +kernel
theorem dX11_coefficientOf_145 : decode cX11_coefficientOf 145 = .ok (.goto 12, 3) := by decide +kernel
theorem dX11_coefficientOf_148 : decode cX11_coefficientOf 148 = .ok (.aload_n 0, 1) := by decide +kernel
theorem dX11_coefficientOf_149 : decode cX11_coefficientOf 149 = .ok (.iload_n 1, 1) := by decide +kernel
theorem dX11_coefficientOf_150 : decode cX11_coefficientOf 150 = .ok (.iload 4, 2) := by decide +kernel
theorem dX11_coefficientOf_152 : decode cX11_coefficientOf 152 = .ok (.iload 6, 2) := by decide +kernel
theorem dX11_coefficientOf_154 : decode cX11_coefficientOf 154 = .ok (.invokevirtual 108, 3) := by decide +kernel
theorem dX11_coefficientOf_157 : decode cX11_coefficientOf 157 = .ok (.ireturn, 1) := by decide +kernel
theorem dX11_coefficientOf_158 : decode cX11_coefficientOf 158 = .ok (.aload_n 0, 1) := by decide +kernel
theorem dX11_coefficientOf_159 : decode cX11_coefficientOf 159 = .ok (.iload_n 1, 1) := by decide +kernel
theorem dX11_coefficientOf_160 : decode cX11_coefficientOf 160 = .ok (.iload 4, 2) := by decide +kernel
theorem dX11_coefficientOf_162 : decode cX11_coefficientOf 162 = .ok (.iload 6, 2) := by decide +kernel
theorem dX11_coefficientOf_164 : decode cX11_coefficientOf 164 = .ok (.invokevirtual 108, 3) := by decide +kernel
theorem dX11_coefficientOf_167 : decode cX11_coefficientOf 167 = .ok (.ireturn, 1) := by decide +kernel
theorem dX11_many_0 : decode cX11_many 0 = .ok (.iconst 0, 1) := by decide +kernel
theorem dX11_many_1 : decode cX11_many 1 = .ok (.istore_n 3, 1) := by decide +kernel
theorem dX11_many_2 : decode cX11_many 2 = .ok (.iconst 0, 1) := by decide +kernel
theorem dX11_many_3 : decode cX11_many 3 = .ok (.istore 4, 2) := by decide +kernel
theorem dX11_many_5 : decode cX11_many 5 = .ok (.aload_n 0, 1) := by decide +kernel
theorem dX11_many_6 : decode cX11_many 6 = .ok (.iload_n 1, 1) := by decide +kernel
theorem dX11_many_7 : decode cX11_many 7 = .ok (.iload 4, 2) := by decide +kernel
theorem dX11_many_9 : decode cX11_many 9 = .ok (.invokevirtual 111, 3) := by decide +kernel
theorem dX11_many_12 : decode cX11_many 12 = .ok (.ifCond .eq 28, 3) := by decide +kernel
theorem dX11_many_15 : decode cX11_many 15 = .ok (.iload_n 3, 1) := by decide +kernel
theorem dX11_many_16 : decode cX11_many 16 = .ok (.aload_n 0, 1) := by decide +kernel
theorem dX11_many_17 : decode cX11_many 17 = .ok (.iload_n 1, 1) := by decide +kernel
theorem dX11_many_18 : decode cX11_many 18 = .ok (.iload 4, 2) := by decide +kernel
theorem dX11_many_20 : decode cX11_many 20 = .ok (.invokevirtual 115, 3) := by decide +kernel
theorem dX11_many_23 : decode cX11_many 23 = .ok (.iload_n 2, 1) := by decide +kernel
theorem dX11_many_24 : decode cX11_many 24 = .ok (.if_icmp .ge 7, 3) := by decide +kernel
theorem dX11_many_27 : decode cX11_many 27 = .ok (.iconst 1, 1) := by decide +kernel
theorem dX11_many_28 : decode cX11_many 28 = .ok (.goto 4, 3) := by decide +kernel
theorem dX11_many_31 : decode cX11_many 31 = .ok (.iconst 0, 1) := by decide +kernel
theorem dX11_many_32 : decode cX11_many 32 = .ok (.iadd, 1) := by decide +kernel
theorem dX11_many_33 : decode cX11_many 33 = .ok (.istore_n 3, 1) := by decide +kernel
theorem dX11_many_34 : decode cX11_many 34 = .ok (.iinc 4 1, 3) := by decide +kernel
theorem dX11_many_37 : decode cX11_many 37 = .ok (.goto (-32), 3) := by decide +kernel
theorem dX11_many_40 : decode cX11_many 40 = .ok (.iload_n 3, 1) := by decide +kernel
theorem dX11_many_41 : decode cX11_many 41 = .ok (.ireturn, 1) := by decide +kernel
theorem dX11_notes_0 : decode cX11_notes 0 = .ok (.aload_n 0, 1) := by decide +kernel
theorem dX11_notes_1 : decode cX11_notes 1 = .ok (.getfield 119, 3) := by decide +kernel
theorem dX11_notes_4 : decode cX11_notes 4 = .ok (.bipush 16, 2) := by decide +kernel
theorem dX11_notes_6 : decode cX11_notes 6 = .ok (.if_icmp .ne 55, 3) := by decide +kernel
theorem dX11_notes_9 : decode cX11_notes 9 = .ok (.iconst 1, 1) := by decide +kernel
theorem dX11_notes_10 : decode cX11_notes 10 = .ok (.istore_n 3, 1) := by decide +kernel
theorem dX11_notes_11 : decode cX11_notes 11 = .ok (.iload_n 3, 1) := by decide +kernel
theorem dX11_notes_12 : decode cX11_notes 12 = .ok (.bipush 16, 2) := by decide +kernel
theorem dX11_notes_14 : decode cX11_notes 14 = .ok (.if_icmp .ge 37, 3) := by decide +kernel
theorem dX11_notes_17 : decode cX11_notes 17 = .ok (.aload_n 0, 1) := by decide +kernel
theorem dX11_notes_18 : decode cX11_notes 18 = .ok (.getfield 39, 3) := by decide +kernel
theorem dX11_notes_21 : decode cX11_notes 21 = .ok (.iload_n 3, 1) := by decide +kernel
theorem dX11_notes_22 : decode cX11_notes 22 = .ok (.iconst 1, 1) := by decide +kernel
theorem dX11_notes_23 : decode cX11_notes 23 = .ok (.isub, 1) := by decide +kernel
theorem dX11_notes_24 : decode cX11_notes 24 = .ok (.aload_n 0, 1) := by decide +kernel
theorem dX11_notes_25 : decode cX11_notes 25 = .ok (.getfield 39, 3) := by decide +kernel
theorem dX11_notes_28 : decode cX11_notes 28 = .ok (.iload_n 3, 1) := by decide +kernel
theorem dX11_notes_29 : decode cX11_notes 29 = .ok (.iaload, 1) := by decide +kernel
theorem dX11_notes_30 : decode cX11_notes 30 = .ok (.iastore, 1) := by decide +kernel
theorem dX11_notes_31 : decode cX11_notes 31 = .ok (.aload_n 0, 1) := by decide +kernel
theorem dX11_notes_32 : decode cX11_notes 32 = .ok (.getfield 42, 3) := by decide +kernel
theorem dX11_notes_35 : decode cX11_notes 35 = .ok (.iload_n 3, 1) := by decide +kernel
theorem dX11_notes_36 : decode cX11_notes 36 = .ok (.iconst 1, 1) := by decide +kernel
theorem dX11_notes_37 : decode cX11_notes 37 = .ok (.isub, 1) := by decide +kernel
theorem dX11_notes_38 : decode cX11_notes 38 = .ok (.aload_n 0, 1) := by decide +kernel
theorem dX11_notes_39 : decode cX11_notes 39 = .ok (.getfield 42, 3) := by decide +kernel
theorem dX11_notes_42 : decode cX11_notes 42 = .ok (.iload_n 3, 1) := by decide +kernel
theorem dX11_notes_43 : decode cX11_notes 43 = .ok (.iaload, 1) := by decide +kernel
theorem dX11_notes_44 : decode cX11_notes 44 = .ok (.iastore, 1) := by decide +kernel
theorem dX11_notes_45 : decode cX11_notes 45 = .ok (.iinc 3 1, 3) := by decide +kernel
theorem dX11_notes_48 : decode cX11_notes 48 = .ok (.goto (-37), 3) := by decide +kernel
theorem dX11_notes_51 : decode cX11_notes 51 = .ok (.aload_n 0, 1) := by decide +kernel
theorem dX11_notes_52 : decode cX11_notes 52 = .ok (.dup, 1) := by decide +kernel
theorem dX11_notes_53 : decode cX11_notes 53 = .ok (.getfield 119, 3) := by decide +kernel
theorem dX11_notes_56 : decode cX11_notes 56 = .ok (.iconst 1, 1) := by decide +kernel
theorem dX11_notes_57 : decode cX11_notes 57 = .ok (.isub, 1) := by decide +kernel
theorem dX11_notes_58 : decode cX11_notes 58 = .ok (.putfield 119, 3) := by decide +kernel
theorem dX11_notes_61 : decode cX11_notes 61 = .ok (.aload_n 0, 1) := by decide +kernel
theorem dX11_notes_62 : decode cX11_notes 62 = .ok (.getfield 39, 3) := by decide +kernel
theorem dX11_notes_65 : decode cX11_notes 65 = .ok (.aload_n 0, 1) := by decide +kernel
theorem dX11_notes_66 : decode cX11_notes 66 = .ok (.getfield 119, 3) := by decide +kernel
theorem dX11_notes_69 : decode cX11_notes 69 = .ok (.iload_n 1, 1) := by decide +kernel
theorem dX11_notes_70 : decode cX11_notes 70 = .ok (.iastore, 1) := by decide +kernel
theorem dX11_notes_71 : decode cX11_notes 71 = .ok (.aload_n 0, 1) := by decide +kernel
theorem dX11_notes_72 : decode cX11_notes 72 = .ok (.getfield 42, 3) := by decide +kernel
theorem dX11_notes_75 : decode cX11_notes 75 = .ok (.aload_n 0, 1) := by decide +kernel
theorem dX11_notes_76 : decode cX11_notes 76 = .ok (.getfield 119, 3) := by decide +kernel
theorem dX11_notes_79 : decode cX11_notes 79 = .ok (.iload_n 2, 1) := by decide +kernel
theorem dX11_notes_80 : decode cX11_notes 80 = .ok (.iastore, 1) := by decide +kernel
theorem dX11_notes_81 : decode cX11_notes 81 = .ok (.aload_n 0, 1) := by decide +kernel
theorem dX11_notes_82 : decode cX11_notes 82 = .ok (.dup, 1) := by decide +kernel
theorem dX11_notes_83 : decode cX11_notes 83 = .ok (.getfield 119, 3) := by decide +kernel
theorem dX11_notes_86 : decode cX11_notes 86 = .ok (.iconst 1, 1) := by decide +kernel
theorem dX11_notes_87 : decode cX11_notes 87 = .ok (.iadd, 1) := by decide +kernel
theorem dX11_notes_88 : decode cX11_notes 88 = .ok (.putfield 119, 3) := by decide +kernel
theorem dX11_notes_91 : decode cX11_notes 91 = .ok (.return_, 1) := by decide +kernel
theorem dX11_undo_0 : decode cX11_undo 0 = .ok (.aload_n 0, 1) := by decide +kernel
theorem dX11_undo_1 : decode cX11_undo 1 = .ok (.getfield 119, 3) := by decide +kernel
theorem dX11_undo_4 : decode cX11_undo 4 = .ok (.ifCond .ne 10, 3) := by decide +kernel
theorem dX11_undo_7 : decode cX11_undo 7 = .ok (.aload_n 0, 1) := by decide +kernel
theorem dX11_undo_8 : decode cX11_undo 8 = .ok (.bipush (-3), 2) := by decide +kernel
theorem dX11_undo_10 : decode cX11_undo 10 = .ok (.invokevirtual 8, 3) := by decide +kernel
theorem dX11_undo_13 : decode cX11_undo 13 = .ok (.ireturn, 1) := by decide +kernel
theorem dX11_undo_14 : decode cX11_undo 14 = .ok (.aload_n 0, 1) := by decide +kernel
theorem dX11_undo_15 : decode cX11_undo 15 = .ok (.dup, 1) := by decide +kernel
theorem dX11_undo_16 : decode cX11_undo 16 = .ok (.getfield 119, 3) := by decide +kernel
theorem dX11_undo_19 : decode cX11_undo 19 = .ok (.iconst 1, 1) := by decide +kernel
theorem dX11_undo_20 : decode cX11_undo 20 = .ok (.isub, 1) := by decide +kernel
theorem dX11_undo_21 : decode cX11_undo 21 = .ok (.putfield 119, 3) := by decide +kernel
theorem dX11_undo_24 : decode cX11_undo 24 = .ok (.aload_n 0, 1) := by decide +kernel
theorem dX11_undo_25 : decode cX11_undo 25 = .ok (.getfield 39, 3) := by decide +kernel
theorem dX11_undo_28 : decode cX11_undo 28 = .ok (.aload_n 0, 1) := by decide +kernel
theorem dX11_undo_29 : decode cX11_undo 29 = .ok (.getfield 119, 3) := by decide +kernel
theorem dX11_undo_32 : decode cX11_undo 32 = .ok (.iaload, 1) := by decide +kernel
theorem dX11_undo_33 : decode cX11_undo 33 = .ok (.istore_n 1, 1) := by decide +kernel
theorem dX11_undo_34 : decode cX11_undo 34 = .ok (.iload_n 1, 1) := by decide +kernel
theorem dX11_undo_35 : decode cX11_undo 35 = .ok (.ifCond .ge 46, 3) := by decide +kernel
theorem dX11_undo_38 : decode cX11_undo 38 = .ok (.aload_n 0, 1) := by decide +kernel
theorem dX11_undo_39 : decode cX11_undo 39 = .ok (.getfield 30, 3) := by decide +kernel
theorem dX11_undo_42 : decode cX11_undo 42 = .ok (.iconst (-1), 1) := by decide +kernel
theorem dX11_undo_43 : decode cX11_undo 43 = .ok (.iload_n 1, 1) := by decide +kernel
theorem dX11_undo_44 : decode cX11_undo 44 = .ok (.isub, 1) := by decide +kernel
theorem dX11_undo_45 : decode cX11_undo 45 = .ok (.aload_n 0, 1) := by decide +kernel
theorem dX11_undo_46 : decode cX11_undo 46 = .ok (.getfield 42, 3) := by decide +kernel
theorem dX11_undo_49 : decode cX11_undo 49 = .ok (.aload_n 0, 1) := by decide +kernel
theorem dX11_undo_50 : decode cX11_undo 50 = .ok (.getfield 119, 3) := by decide +kernel
theorem dX11_undo_53 : decode cX11_undo 53 = .ok (.iaload, 1) := by decide +kernel
theorem dX11_undo_54 : decode cX11_undo 54 = .ok (.bipush 10, 2) := by decide +kernel
theorem dX11_undo_56 : decode cX11_undo 56 = .ok (.idiv, 1) := by decide +kernel
theorem dX11_undo_57 : decode cX11_undo 57 = .ok (.iastore, 1) := by decide +kernel
theorem dX11_undo_58 : decode cX11_undo 58 = .ok (.aload_n 0, 1) := by decide +kernel
theorem dX11_undo_59 : decode cX11_undo 59 = .ok (.getfield 33, 3) := by decide +kernel
theorem dX11_undo_62 : decode cX11_undo 62 = .ok (.iconst (-1), 1) := by decide +kernel
theorem dX11_undo_63 : decode cX11_undo 63 = .ok (.iload_n 1, 1) := by decide +kernel
theorem dX11_undo_64 : decode cX11_undo 64 = .ok (.isub, 1) := by decide +kernel
theorem dX11_undo_65 : decode cX11_undo 65 = .ok (.aload_n 0, 1) := by decide +kernel
theorem dX11_undo_66 : decode cX11_undo 66 = .ok (.getfield 42, 3) := by decide +kernel
theorem dX11_undo_69 : decode cX11_undo 69 = .ok (.aload_n 0, 1) := by decide +kernel
theorem dX11_undo_70 : decode cX11_undo 70 = .ok (.getfield 119, 3) := by decide +kernel
theorem dX11_undo_73 : decode cX11_undo 73 = .ok (.iaload, 1) := by decide +kernel
theorem dX11_undo_74 : decode cX11_undo 74 = .ok (.bipush 10, 2) := by decide +kernel
theorem dX11_undo_76 : decode cX11_undo 76 = .ok (.irem, 1) := by decide +kernel
theorem dX11_undo_77 : decode cX11_undo 77 = .ok (.iastore, 1) := by decide +kernel
theorem dX11_undo_78 : decode cX11_undo 78 = .ok (.goto 18, 3) := by decide +kernel
theorem dX11_undo_81 : decode cX11_undo 81 = .ok (.aload_n 0, 1) := by decide +kernel
theorem dX11_undo_82 : decode cX11_undo 82 = .ok (.getfield 27, 3) := by decide +kernel
theorem dX11_undo_85 : decode cX11_undo 85 = .ok (.iload_n 1, 1) := by decide +kernel
theorem dX11_undo_86 : decode cX11_undo 86 = .ok (.aload_n 0, 1) := by decide +kernel
theorem dX11_undo_87 : decode cX11_undo 87 = .ok (.getfield 42, 3) := by decide +kernel
theorem dX11_undo_90 : decode cX11_undo 90 = .ok (.aload_n 0, 1) := by decide +kernel
theorem dX11_undo_91 : decode cX11_undo 91 = .ok (.getfield 119, 3) := by decide +kernel
theorem dX11_undo_94 : decode cX11_undo 94 = .ok (.iaload, 1) := by decide +kernel
theorem dX11_undo_95 : decode cX11_undo 95 = .ok (.iastore, 1) := by decide +kernel
theorem dX11_undo_96 : decode cX11_undo 96 = .ok (.aload_n 0, 1) := by decide +kernel
theorem dX11_undo_97 : decode cX11_undo 97 = .ok (.getfield 119, 3) := by decide +kernel
theorem dX11_undo_100 : decode cX11_undo 100 = .ok (.ireturn, 1) := by decide +kernel
theorem dX11_canCome_0 : decode cX11_canCome 0 = .ok (.aload_n 0, 1) := by decide +kernel
theorem dX11_canCome_1 : decode cX11_canCome 1 = .ok (.getfield 95, 3) := by decide +kernel
theorem dX11_canCome_4 : decode cX11_canCome 4 = .ok (.bipush 6, 2) := by decide +kernel
theorem dX11_canCome_6 : decode cX11_canCome 6 = .ok (.if_icmp .ge 13, 3) := by decide +kernel
theorem dX11_canCome_9 : decode cX11_canCome 9 = .ok (.iload_n 1, 1) := by decide +kernel
theorem dX11_canCome_10 : decode cX11_canCome 10 = .ok (.bipush 6, 2) := by decide +kernel
theorem dX11_canCome_12 : decode cX11_canCome 12 = .ok (.if_icmp .gt 7, 3) := by decide +kernel
theorem dX11_canCome_15 : decode cX11_canCome 15 = .ok (.iconst 1, 1) := by decide +kernel
theorem dX11_canCome_16 : decode cX11_canCome 16 = .ok (.goto 4, 3) := by decide +kernel
theorem dX11_canCome_19 : decode cX11_canCome 19 = .ok (.iconst 0, 1) := by decide +kernel
theorem dX11_canCome_20 : decode cX11_canCome 20 = .ok (.istore_n 2, 1) := by decide +kernel
theorem dX11_canCome_21 : decode cX11_canCome 21 = .ok (.iconst 0, 1) := by decide +kernel
theorem dX11_canCome_22 : decode cX11_canCome 22 = .ok (.istore_n 3, 1) := by decide +kernel
theorem dX11_canCome_23 : decode cX11_canCome 23 = .ok (.iload_n 2, 1) := by decide +kernel
theorem dX11_canCome_24 : decode cX11_canCome 24 = .ok (.ifCond .eq 49, 3) := by decide +kernel
theorem dX11_canCome_27 : decode cX11_canCome 27 = .ok (.iload_n 3, 1) := by decide +kernel
theorem dX11_canCome_28 : decode cX11_canCome 28 = .ok (.iload_n 1, 1) := by decide +kernel
theorem dX11_canCome_29 : decode cX11_canCome 29 = .ok (.invokestatic 102, 3) := by decide +kernel
theorem dX11_canCome_32 : decode cX11_canCome 32 = .ok (.if_icmp .ge 41, 3) := by decide +kernel
theorem dX11_canCome_35 : decode cX11_canCome 35 = .ok (.aload_n 0, 1) := by decide +kernel
theorem dX11_canCome_36 : decode cX11_canCome 36 = .ok (.getfield 45, 3) := by decide +kernel
theorem dX11_canCome_39 : decode cX11_canCome 39 = .ok (.iload_n 3, 1) := by decide +kernel
theorem dX11_canCome_40 : decode cX11_canCome 40 = .ok (.laload, 1) := by decide +kernel
theorem dX11_canCome_41 : decode cX11_canCome 41 = .ok (.ldc2_w 122, 3) := by decide +kernel
theorem dX11_canCome_44 : decode cX11_canCome 44 = .ok (.lcmp, 1) := by decide +kernel
theorem dX11_canCome_45 : decode cX11_canCome 45 = .ok (.ifCond .lt 20, 3) := by decide +kernel
theorem dX11_canCome_48 : decode cX11_canCome 48 = .ok (.aload_n 0, 1) := by decide +kernel
theorem dX11_canCome_49 : decode cX11_canCome 49 = .ok (.getfield 45, 3) := by decide +kernel
theorem dX11_canCome_52 : decode cX11_canCome 52 = .ok (.iload_n 3, 1) := by decide +kernel
theorem dX11_canCome_53 : decode cX11_canCome 53 = .ok (.laload, 1) := by decide +kernel
theorem dX11_canCome_54 : decode cX11_canCome 54 = .ok (.ldc2_w 124, 3) := by decide +kernel
theorem dX11_canCome_57 : decode cX11_canCome 57 = .ok (.lcmp, 1) := by decide +kernel
theorem dX11_canCome_58 : decode cX11_canCome 58 = .ok (.ifCond .gt 7, 3) := by decide +kernel
theorem dX11_canCome_61 : decode cX11_canCome 61 = .ok (.iconst 1, 1) := by decide +kernel
theorem dX11_canCome_62 : decode cX11_canCome 62 = .ok (.goto 4, 3) := by decide +kernel
theorem dX11_canCome_65 : decode cX11_canCome 65 = .ok (.iconst 0, 1) := by decide +kernel
theorem dX11_canCome_66 : decode cX11_canCome 66 = .ok (.istore_n 2, 1) := by decide +kernel
theorem dX11_canCome_67 : decode cX11_canCome 67 = .ok (.iinc 3 1, 3) := by decide +kernel
theorem dX11_canCome_70 : decode cX11_canCome 70 = .ok (.goto (-47), 3) := by decide +kernel
theorem dX11_canCome_73 : decode cX11_canCome 73 = .ok (.iload_n 2, 1) := by decide +kernel
theorem dX11_canCome_74 : decode cX11_canCome 74 = .ok (.ireturn, 1) := by decide +kernel
theorem dX11_comes_0 : decode cX11_comes 0 = .ok (.iconst 0, 1) := by decide +kernel
theorem dX11_comes_1 : decode cX11_comes 1 = .ok (.istore_n 2, 1) := by decide +kernel
theorem dX11_comes_2 : decode cX11_comes 2 = .ok (.iload_n 2, 1) := by decide +kernel
theorem dX11_comes_3 : decode cX11_comes 3 = .ok (.bipush 28, 2) := by decide +kernel
theorem dX11_comes_5 : decode cX11_comes 5 = .ok (.if_icmp .ge 42, 3) := by decide +kernel
theorem dX11_comes_8 : decode cX11_comes 8 = .ok (.aload_n 0, 1) := by decide +kernel
theorem dX11_comes_9 : decode cX11_comes 9 = .ok (.getfield 27, 3) := by decide +kernel
theorem dX11_comes_12 : decode cX11_comes 12 = .ok (.bipush 28, 2) := by decide +kernel
theorem dX11_comes_14 : decode cX11_comes 14 = .ok (.aload_n 0, 1) := by decide +kernel
theorem dX11_comes_15 : decode cX11_comes 15 = .ok (.getfield 95, 3) := by decide +kernel
theorem dX11_comes_18 : decode cX11_comes 18 = .ok (.imul, 1) := by decide +kernel
theorem dX11_comes_19 : decode cX11_comes 19 = .ok (.iload_n 2, 1) := by decide +kernel
theorem dX11_comes_20 : decode cX11_comes 20 = .ok (.iadd, 1) := by decide +kernel
theorem dX11_comes_21 : decode cX11_comes 21 = .ok (.iload_n 2, 1) := by decide +kernel
theorem dX11_comes_22 : decode cX11_comes 22 = .ok (.iload_n 1, 1) := by decide +kernel
theorem dX11_comes_23 : decode cX11_comes 23 = .ok (.invokestatic 102, 3) := by decide +kernel
theorem dX11_comes_26 : decode cX11_comes 26 = .ok (.if_icmp .ge 13, 3) := by decide +kernel
theorem dX11_comes_29 : decode cX11_comes 29 = .ok (.aload_n 0, 1) := by decide +kernel
theorem dX11_comes_30 : decode cX11_comes 30 = .ok (.getfield 45, 3) := by decide +kernel
theorem dX11_comes_33 : decode cX11_comes 33 = .ok (.iload_n 2, 1) := by decide +kernel
theorem dX11_comes_34 : decode cX11_comes 34 = .ok (.laload, 1) := by decide +kernel
theorem dX11_comes_35 : decode cX11_comes 35 = .ok (.l2i, 1) := by decide +kernel
theorem dX11_comes_36 : decode cX11_comes 36 = .ok (.goto 4, 3) := by decide +kernel
theorem dX11_comes_39 : decode cX11_comes 39 = .ok (.iconst 0, 1) := by decide +kernel
theorem dX11_comes_40 : decode cX11_comes 40 = .ok (.iastore, 1) := by decide +kernel
theorem dX11_comes_41 : decode cX11_comes 41 = .ok (.iinc 2 1, 3) := by decide +kernel
theorem dX11_comes_44 : decode cX11_comes 44 = .ok (.goto (-42), 3) := by decide +kernel
theorem dX11_comes_47 : decode cX11_comes 47 = .ok (.aload_n 0, 1) := by decide +kernel
theorem dX11_comes_48 : decode cX11_comes 48 = .ok (.getfield 30, 3) := by decide +kernel
theorem dX11_comes_51 : decode cX11_comes 51 = .ok (.aload_n 0, 1) := by decide +kernel
theorem dX11_comes_52 : decode cX11_comes 52 = .ok (.getfield 95, 3) := by decide +kernel
theorem dX11_comes_55 : decode cX11_comes 55 = .ok (.iconst 0, 1) := by decide +kernel
theorem dX11_comes_56 : decode cX11_comes 56 = .ok (.iastore, 1) := by decide +kernel
theorem dX11_comes_57 : decode cX11_comes 57 = .ok (.aload_n 0, 1) := by decide +kernel
theorem dX11_comes_58 : decode cX11_comes 58 = .ok (.getfield 33, 3) := by decide +kernel
theorem dX11_comes_61 : decode cX11_comes 61 = .ok (.aload_n 0, 1) := by decide +kernel
theorem dX11_comes_62 : decode cX11_comes 62 = .ok (.getfield 95, 3) := by decide +kernel
theorem dX11_comes_65 : decode cX11_comes 65 = .ok (.iconst 0, 1) := by decide +kernel
theorem dX11_comes_66 : decode cX11_comes 66 = .ok (.iastore, 1) := by decide +kernel
theorem dX11_comes_67 : decode cX11_comes 67 = .ok (.aload_n 0, 1) := by decide +kernel
theorem dX11_comes_68 : decode cX11_comes 68 = .ok (.getfield 36, 3) := by decide +kernel
theorem dX11_comes_71 : decode cX11_comes 71 = .ok (.aload_n 0, 1) := by decide +kernel
theorem dX11_comes_72 : decode cX11_comes 72 = .ok (.getfield 95, 3) := by decide +kernel
theorem dX11_comes_75 : decode cX11_comes 75 = .ok (.iload_n 1, 1) := by decide +kernel
theorem dX11_comes_76 : decode cX11_comes 76 = .ok (.iastore, 1) := by decide +kernel
theorem dX11_comes_77 : decode cX11_comes 77 = .ok (.aload_n 0, 1) := by decide +kernel
theorem dX11_comes_78 : decode cX11_comes 78 = .ok (.dup, 1) := by decide +kernel
theorem dX11_comes_79 : decode cX11_comes 79 = .ok (.getfield 95, 3) := by decide +kernel
theorem dX11_comes_82 : decode cX11_comes 82 = .ok (.iconst 1, 1) := by decide +kernel
theorem dX11_comes_83 : decode cX11_comes 83 = .ok (.iadd, 1) := by decide +kernel
theorem dX11_comes_84 : decode cX11_comes 84 = .ok (.putfield 95, 3) := by decide +kernel
theorem dX11_comes_87 : decode cX11_comes 87 = .ok (.aload_n 0, 1) := by decide +kernel
theorem dX11_comes_88 : decode cX11_comes 88 = .ok (.getfield 95, 3) := by decide +kernel
theorem dX11_comes_91 : decode cX11_comes 91 = .ok (.iconst 1, 1) := by decide +kernel
theorem dX11_comes_92 : decode cX11_comes 92 = .ok (.isub, 1) := by decide +kernel
theorem dX11_comes_93 : decode cX11_comes 93 = .ok (.ireturn, 1) := by decide +kernel
theorem dX11_comesIf_0 : decode cX11_comesIf 0 = .ok (.aload_n 0, 1) := by decide +kernel
theorem dX11_comesIf_1 : decode cX11_comesIf 1 = .ok (.iload_n 1, 1) := by decide +kernel
theorem dX11_comesIf_2 : decode cX11_comesIf 2 = .ok (.invokevirtual 126, 3) := by decide +kernel
theorem dX11_comesIf_5 : decode cX11_comesIf 5 = .ok (.ifCond .eq 11, 3) := by decide +kernel
theorem dX11_comesIf_8 : decode cX11_comesIf 8 = .ok (.aload_n 0, 1) := by decide +kernel
theorem dX11_comesIf_9 : decode cX11_comesIf 9 = .ok (.iload_n 1, 1) := by decide +kernel
theorem dX11_comesIf_10 : decode cX11_comesIf 10 = .ok (.invokevirtual 130, 3) := by decide +kernel
theorem dX11_comesIf_13 : decode cX11_comesIf 13 = .ok (.goto 5, 3) := by decide +kernel
theorem dX11_comesIf_16 : decode cX11_comesIf 16 = .ok (.bipush (-6), 2) := by decide +kernel
theorem dX11_comesIf_18 : decode cX11_comesIf 18 = .ok (.ireturn, 1) := by decide +kernel
theorem dX11_sums_0 : decode cX11_sums 0 = .ok (.iconst 0, 1) := by decide +kernel
theorem dX11_sums_1 : decode cX11_sums 1 = .ok (.istore_n 3, 1) := by decide +kernel
theorem dX11_sums_2 : decode cX11_sums 2 = .ok (.aload_n 0, 1) := by decide +kernel
theorem dX11_sums_3 : decode cX11_sums 3 = .ok (.iload_n 1, 1) := by decide +kernel
theorem dX11_sums_4 : decode cX11_sums 4 = .ok (.iload_n 3, 1) := by decide +kernel
theorem dX11_sums_5 : decode cX11_sums 5 = .ok (.invokevirtual 111, 3) := by decide +kernel
theorem dX11_sums_8 : decode cX11_sums 8 = .ok (.ifCond .eq 30, 3) := by decide +kernel
theorem dX11_sums_11 : decode cX11_sums 11 = .ok (.aload_n 0, 1) := by decide +kernel
theorem dX11_sums_12 : decode cX11_sums 12 = .ok (.getfield 45, 3) := by decide +kernel
theorem dX11_sums_15 : decode cX11_sums 15 = .ok (.iload_n 3, 1) := by decide +kernel
theorem dX11_sums_16 : decode cX11_sums 16 = .ok (.aload_n 0, 1) := by decide +kernel
theorem dX11_sums_17 : decode cX11_sums 17 = .ok (.iload_n 1, 1) := by decide +kernel
theorem dX11_sums_18 : decode cX11_sums 18 = .ok (.iload_n 3, 1) := by decide +kernel
theorem dX11_sums_19 : decode cX11_sums 19 = .ok (.invokevirtual 115, 3) := by decide +kernel
theorem dX11_sums_22 : decode cX11_sums 22 = .ok (.i2l, 1) := by decide +kernel
theorem dX11_sums_23 : decode cX11_sums 23 = .ok (.aload_n 0, 1) := by decide +kernel
theorem dX11_sums_24 : decode cX11_sums 24 = .ok (.iload_n 2, 1) := by decide +kernel
theorem dX11_sums_25 : decode cX11_sums 25 = .ok (.iload_n 3, 1) := by decide +kernel
theorem dX11_sums_26 : decode cX11_sums 26 = .ok (.invokevirtual 115, 3) := by decide +kernel
theorem dX11_sums_29 : decode cX11_sums 29 = .ok (.i2l, 1) := by decide +kernel
theorem dX11_sums_30 : decode cX11_sums 30 = .ok (.ladd, 1) := by decide +kernel
theorem dX11_sums_31 : decode cX11_sums 31 = .ok (.lastore, 1) := by decide +kernel
theorem dX11_sums_32 : decode cX11_sums 32 = .ok (.iinc 3 1, 3) := by decide +kernel
theorem dX11_sums_35 : decode cX11_sums 35 = .ok (.goto (-33), 3) := by decide +kernel
theorem dX11_sums_38 : decode cX11_sums 38 = .ok (.aload_n 0, 1) := by decide +kernel
theorem dX11_sums_39 : decode cX11_sums 39 = .ok (.aload_n 0, 1) := by decide +kernel
theorem dX11_sums_40 : decode cX11_sums 40 = .ok (.getfield 36, 3) := by decide +kernel
theorem dX11_sums_43 : decode cX11_sums 43 = .ok (.iload_n 1, 1) := by decide +kernel
theorem dX11_sums_44 : decode cX11_sums 44 = .ok (.iaload, 1) := by decide +kernel
theorem dX11_sums_45 : decode cX11_sums 45 = .ok (.invokevirtual 133, 3) := by decide +kernel
theorem dX11_sums_48 : decode cX11_sums 48 = .ok (.ireturn, 1) := by decide +kernel
theorem dX11_multiplies_0 : decode cX11_multiplies 0 = .ok (.aload_n 0, 1) := by decide +kernel
theorem dX11_multiplies_1 : decode cX11_multiplies 1 = .ok (.getfield 36, 3) := by decide +kernel
theorem dX11_multiplies_4 : decode cX11_multiplies 4 = .ok (.iload_n 1, 1) := by decide +kernel
theorem dX11_multiplies_5 : decode cX11_multiplies 5 = .ok (.iaload, 1) := by decide +kernel
theorem dX11_multiplies_6 : decode cX11_multiplies 6 = .ok (.aload_n 0, 1) := by decide +kernel
theorem dX11_multiplies_7 : decode cX11_multiplies 7 = .ok (.getfield 36, 3) := by decide +kernel
theorem dX11_multiplies_10 : decode cX11_multiplies 10 = .ok (.iload_n 2, 1) := by decide +kernel
theorem dX11_multiplies_11 : decode cX11_multiplies 11 = .ok (.iaload, 1) := by decide +kernel
theorem dX11_multiplies_12 : decode cX11_multiplies 12 = .ok (.iadd, 1) := by decide +kernel
theorem dX11_multiplies_13 : decode cX11_multiplies 13 = .ok (.istore_n 3, 1) := by decide +kernel
theorem dX11_multiplies_14 : decode cX11_multiplies 14 = .ok (.iload_n 3, 1) := by decide +kernel
theorem dX11_multiplies_15 : decode cX11_multiplies 15 = .ok (.bipush 6, 2) := by decide +kernel
theorem dX11_multiplies_17 : decode cX11_multiplies 17 = .ok (.if_icmp .le 6, 3) := by decide +kernel
theorem dX11_multiplies_20 : decode cX11_multiplies 20 = .ok (.bipush (-6), 2) := by decide +kernel
theorem dX11_multiplies_22 : decode cX11_multiplies 22 = .ok (.ireturn, 1) := by decide +kernel
theorem dX11_multiplies_23 : decode cX11_multiplies 23 = .ok (.iconst 0, 1) := by decide +kernel
theorem dX11_multiplies_24 : decode cX11_multiplies 24 = .ok (.istore 4, 2) := by decide +kernel
theorem dX11_multiplies_26 : decode cX11_multiplies 26 = .ok (.iload 4, 2) := by decide +kernel
theorem dX11_multiplies_28 : decode cX11_multiplies 28 = .ok (.bipush 28, 2) := by decide +kernel
theorem dX11_multiplies_30 : decode cX11_multiplies 30 = .ok (.if_icmp .ge 17, 3) := by decide +kernel
theorem dX11_multiplies_33 : decode cX11_multiplies 33 = .ok (.aload_n 0, 1) := by decide +kernel
theorem dX11_multiplies_34 : decode cX11_multiplies 34 = .ok (.getfield 45, 3) := by decide +kernel
theorem dX11_multiplies_37 : decode cX11_multiplies 37 = .ok (.iload 4, 2) := by decide +kernel
theorem dX11_multiplies_39 : decode cX11_multiplies 39 = .ok (.lconst 0, 1) := by decide +kernel
theorem dX11_multiplies_40 : decode cX11_multiplies 40 = .ok (.lastore, 1) := by decide +kernel
theorem dX11_multiplies_41 : decode cX11_multiplies 41 = .ok (.iinc 4 1, 3) := by decide +kernel
theorem dX11_multiplies_44 : decode cX11_multiplies 44 = .ok (.goto (-18), 3) := by decide +kernel
theorem dX11_multiplies_47 : decode cX11_multiplies 47 = .ok (.iconst 0, 1) := by decide +kernel
theorem dX11_multiplies_48 : decode cX11_multiplies 48 = .ok (.istore 4, 2) := by decide +kernel
theorem dX11_multiplies_50 : decode cX11_multiplies 50 = .ok (.aload_n 0, 1) := by decide +kernel
theorem dX11_multiplies_51 : decode cX11_multiplies 51 = .ok (.iload_n 1, 1) := by decide +kernel
theorem dX11_multiplies_52 : decode cX11_multiplies 52 = .ok (.iload 4, 2) := by decide +kernel
theorem dX11_multiplies_54 : decode cX11_multiplies 54 = .ok (.invokevirtual 111, 3) := by decide +kernel
theorem dX11_multiplies_57 : decode cX11_multiplies 57 = .ok (.ifCond .eq 107, 3) := by decide +kernel
theorem dX11_multiplies_60 : decode cX11_multiplies 60 = .ok (.iconst 0, 1) := by decide +kernel
theorem dX11_multiplies_61 : decode cX11_multiplies 61 = .ok (.istore 5, 2) := by decide +kernel
theorem dX11_multiplies_63 : decode cX11_multiplies 63 = .ok (.aload_n 0, 1) := by decide +kernel
theorem dX11_multiplies_64 : decode cX11_multiplies 64 = .ok (.iload_n 2, 1) := by decide +kernel
theorem dX11_multiplies_65 : decode cX11_multiplies 65 = .ok (.iload 5, 2) := by decide +kernel
theorem dX11_multiplies_67 : decode cX11_multiplies 67 = .ok (.invokevirtual 111, 3) := by decide +kernel
theorem dX11_multiplies_70 : decode cX11_multiplies 70 = .ok (.ifCond .eq 88, 3) := by decide +kernel
theorem dX11_multiplies_73 : decode cX11_multiplies 73 = .ok (.aload_n 0, 1) := by decide +kernel
theorem dX11_multiplies_74 : decode cX11_multiplies 74 = .ok (.getfield 45, 3) := by decide +kernel
theorem dX11_multiplies_77 : decode cX11_multiplies 77 = .ok (.iload_n 3, 1) := by decide +kernel
theorem dX11_multiplies_78 : decode cX11_multiplies 78 = .ok (.aload_n 0, 1) := by decide +kernel
theorem dX11_multiplies_79 : decode cX11_multiplies 79 = .ok (.getfield 36, 3) := by decide +kernel
theorem dX11_multiplies_82 : decode cX11_multiplies 82 = .ok (.iload_n 1, 1) := by decide +kernel
theorem dX11_multiplies_83 : decode cX11_multiplies 83 = .ok (.iaload, 1) := by decide +kernel
theorem dX11_multiplies_84 : decode cX11_multiplies 84 = .ok (.iload 4, 2) := by decide +kernel
theorem dX11_multiplies_86 : decode cX11_multiplies 86 = .ok (.iconst 0, 1) := by decide +kernel
theorem dX11_multiplies_87 : decode cX11_multiplies 87 = .ok (.invokestatic 17, 3) := by decide +kernel
theorem dX11_multiplies_90 : decode cX11_multiplies 90 = .ok (.aload_n 0, 1) := by decide +kernel
theorem dX11_multiplies_91 : decode cX11_multiplies 91 = .ok (.getfield 36, 3) := by decide +kernel
theorem dX11_multiplies_94 : decode cX11_multiplies 94 = .ok (.iload_n 2, 1) := by decide +kernel
theorem dX11_multiplies_95 : decode cX11_multiplies 95 = .ok (.iaload, 1) := by decide +kernel
theorem dX11_multiplies_96 : decode cX11_multiplies 96 = .ok (.iload 5, 2) := by decide +kernel
theorem dX11_multiplies_98 : decode cX11_multiplies 98 = .ok (.iconst 0, 1) := by decide +kernel
theorem dX11_multiplies_99 : decode cX11_multiplies 99 = .ok (.invokestatic 17, 3) := by decide +kernel
theorem dX11_multiplies_102 : decode cX11_multiplies 102 = .ok (.iadd, 1) := by decide +kernel
theorem dX11_multiplies_103 : decode cX11_multiplies 103 = .ok (.aload_n 0, 1) := by decide +kernel
theorem dX11_multiplies_104 : decode cX11_multiplies 104 = .ok (.getfield 36, 3) := by decide +kernel
theorem dX11_multiplies_107 : decode cX11_multiplies 107 = .ok (.iload_n 1, 1) := by decide +kernel
theorem dX11_multiplies_108 : decode cX11_multiplies 108 = .ok (.iaload, 1) := by decide +kernel
theorem dX11_multiplies_109 : decode cX11_multiplies 109 = .ok (.iload 4, 2) := by decide +kernel
theorem dX11_multiplies_111 : decode cX11_multiplies 111 = .ok (.iconst 2, 1) := by decide +kernel
theorem dX11_multiplies_112 : decode cX11_multiplies 112 = .ok (.invokestatic 17, 3) := by decide +kernel
theorem dX11_multiplies_115 : decode cX11_multiplies 115 = .ok (.aload_n 0, 1) := by decide +kernel
theorem dX11_multiplies_116 : decode cX11_multiplies 116 = .ok (.getfield 36, 3) := by decide +kernel
theorem dX11_multiplies_119 : decode cX11_multiplies 119 = .ok (.iload_n 2, 1) := by decide +kernel
theorem dX11_multiplies_120 : decode cX11_multiplies 120 = .ok (.iaload, 1) := by decide +kernel
theorem dX11_multiplies_121 : decode cX11_multiplies 121 = .ok (.iload 5, 2) := by decide +kernel
theorem dX11_multiplies_123 : decode cX11_multiplies 123 = .ok (.iconst 2, 1) := by decide +kernel
theorem dX11_multiplies_124 : decode cX11_multiplies 124 = .ok (.invokestatic 17, 3) := by decide +kernel
theorem dX11_multiplies_127 : decode cX11_multiplies 127 = .ok (.iadd, 1) := by decide +kernel
theorem dX11_multiplies_128 : decode cX11_multiplies 128 = .ok (.invokestatic 105, 3) := by decide +kernel
theorem dX11_multiplies_131 : decode cX11_multiplies 131 = .ok (.dup2, 1) := by decide +kernel
theorem dX11_multiplies_132 : decode cX11_multiplies 132 = .ok (.laload, 1) := by decide +kernel
theorem dX11_multiplies_133 : decode cX11_multiplies 133 = .ok (.aload_n 0, 1) := by decide +kernel
theorem dX11_multiplies_134 : decode cX11_multiplies 134 = .ok (.iload_n 1, 1) := by decide +kernel
theorem dX11_multiplies_135 : decode cX11_multiplies 135 = .ok (.iload 4, 2) := by decide +kernel
theorem dX11_multiplies_137 : decode cX11_multiplies 137 = .ok (.invokevirtual 115, 3) := by decide +kernel
theorem dX11_multiplies_140 : decode cX11_multiplies 140 = .ok (.i2l, 1) := by decide +kernel
theorem dX11_multiplies_141 : decode cX11_multiplies 141 = .ok (.aload_n 0, 1) := by decide +kernel
theorem dX11_multiplies_142 : decode cX11_multiplies 142 = .ok (.iload_n 2, 1) := by decide +kernel
theorem dX11_multiplies_143 : decode cX11_multiplies 143 = .ok (.iload 5, 2) := by decide +kernel
theorem dX11_multiplies_145 : decode cX11_multiplies 145 = .ok (.invokevirtual 115, 3) := by decide +kernel
theorem dX11_multiplies_148 : decode cX11_multiplies 148 = .ok (.i2l, 1) := by decide +kernel
theorem dX11_multiplies_149 : decode cX11_multiplies 149 = .ok (.lmul, 1) := by decide +kernel
theorem dX11_multiplies_150 : decode cX11_multiplies 150 = .ok (.ladd, 1) := by decide +kernel
theorem dX11_multiplies_151 : decode cX11_multiplies 151 = .ok (.lastore, 1) := by decide +kernel
theorem dX11_multiplies_152 : decode cX11_multiplies 152 = .ok (.iinc 5 1, 3) := by decide +kernel
theorem dX11_multiplies_155 : decode cX11_multiplies 155 = .ok (.goto (-92), 3) := by decide +kernel
theorem dX11_multiplies_158 : decode cX11_multiplies 158 = .ok (.iinc 4 1, 3) := by decide +kernel
theorem dX11_multiplies_161 : decode cX11_multiplies 161 = .ok (.goto (-111), 3) := by decide +kernel
theorem dX11_multiplies_164 : decode cX11_multiplies 164 = .ok (.aload_n 0, 1) := by decide +kernel
theorem dX11_multiplies_165 : decode cX11_multiplies 165 = .ok (.iload_n 3, 1) := by decide +kernel
theorem dX11_multiplies_166 : decode cX11_multiplies 166 = .ok (.invokevirtual 133, 3) := by decide +kernel
theorem dX11_multiplies_169 : decode cX11_multiplies 169 = .ok (.ireturn, 1) := by decide +kernel
theorem dX11_rises_0 : decode cX11_rises 0 = .ok (.iconst 0, 1) := by decide +kernel
theorem dX11_rises_1 : decode cX11_rises 1 = .ok (.istore_n 2, 1) := by decide +kernel
theorem dX11_rises_2 : decode cX11_rises 2 = .ok (.iload_n 2, 1) := by decide +kernel
theorem dX11_rises_3 : decode cX11_rises 3 = .ok (.aload_n 0, 1) := by decide +kernel
theorem dX11_rises_4 : decode cX11_rises 4 = .ok (.getfield 239, 3) := by decide +kernel
theorem dX11_rises_7 : decode cX11_rises 7 = .ok (.invokestatic 102, 3) := by decide +kernel
theorem dX11_rises_10 : decode cX11_rises 10 = .ok (.if_icmp .ge 21, 3) := by decide +kernel
theorem dX11_rises_13 : decode cX11_rises 13 = .ok (.aload_n 0, 1) := by decide +kernel
theorem dX11_rises_14 : decode cX11_rises 14 = .ok (.getfield 70, 3) := by decide +kernel
theorem dX11_rises_17 : decode cX11_rises 17 = .ok (.iload_n 2, 1) := by decide +kernel
theorem dX11_rises_18 : decode cX11_rises 18 = .ok (.aload_n 0, 1) := by decide +kernel
theorem dX11_rises_19 : decode cX11_rises 19 = .ok (.getfield 67, 3) := by decide +kernel
theorem dX11_rises_22 : decode cX11_rises 22 = .ok (.iload_n 2, 1) := by decide +kernel
theorem dX11_rises_23 : decode cX11_rises 23 = .ok (.laload, 1) := by decide +kernel
theorem dX11_rises_24 : decode cX11_rises 24 = .ok (.lastore, 1) := by decide +kernel
theorem dX11_rises_25 : decode cX11_rises 25 = .ok (.iinc 2 1, 3) := by decide +kernel
theorem dX11_rises_28 : decode cX11_rises 28 = .ok (.goto (-26), 3) := by decide +kernel
theorem dX11_rises_31 : decode cX11_rises 31 = .ok (.iconst 0, 1) := by decide +kernel
theorem dX11_rises_32 : decode cX11_rises 32 = .ok (.istore_n 2, 1) := by decide +kernel
theorem dX11_rises_33 : decode cX11_rises 33 = .ok (.iload_n 2, 1) := by decide +kernel
theorem dX11_rises_34 : decode cX11_rises 34 = .ok (.aload_n 0, 1) := by decide +kernel
theorem dX11_rises_35 : decode cX11_rises 35 = .ok (.getfield 239, 3) := by decide +kernel
theorem dX11_rises_38 : decode cX11_rises 38 = .ok (.iconst 1, 1) := by decide +kernel
theorem dX11_rises_39 : decode cX11_rises 39 = .ok (.iadd, 1) := by decide +kernel
theorem dX11_rises_40 : decode cX11_rises 40 = .ok (.invokestatic 102, 3) := by decide +kernel
theorem dX11_rises_43 : decode cX11_rises 43 = .ok (.if_icmp .ge 16, 3) := by decide +kernel
theorem dX11_rises_46 : decode cX11_rises 46 = .ok (.aload_n 0, 1) := by decide +kernel
theorem dX11_rises_47 : decode cX11_rises 47 = .ok (.getfield 67, 3) := by decide +kernel
theorem dX11_rises_50 : decode cX11_rises 50 = .ok (.iload_n 2, 1) := by decide +kernel
theorem dX11_rises_51 : decode cX11_rises 51 = .ok (.lconst 0, 1) := by decide +kernel
theorem dX11_rises_52 : decode cX11_rises 52 = .ok (.lastore, 1) := by decide +kernel
theorem dX11_rises_53 : decode cX11_rises 53 = .ok (.iinc 2 1, 3) := by decide +kernel
theorem dX11_rises_56 : decode cX11_rises 56 = .ok (.goto (-23), 3) := by decide +kernel
theorem dX11_rises_59 : decode cX11_rises 59 = .ok (.iconst 0, 1) := by decide +kernel
theorem dX11_rises_60 : decode cX11_rises 60 = .ok (.istore_n 2, 1) := by decide +kernel
theorem dX11_rises_61 : decode cX11_rises 61 = .ok (.iload_n 2, 1) := by decide +kernel
theorem dX11_rises_62 : decode cX11_rises 62 = .ok (.aload_n 0, 1) := by decide +kernel
theorem dX11_rises_63 : decode cX11_rises 63 = .ok (.getfield 239, 3) := by decide +kernel
theorem dX11_rises_66 : decode cX11_rises 66 = .ok (.invokestatic 102, 3) := by decide +kernel
theorem dX11_rises_69 : decode cX11_rises 69 = .ok (.if_icmp .ge 130, 3) := by decide +kernel
theorem dX11_rises_72 : decode cX11_rises 72 = .ok (.aload_n 0, 1) := by decide +kernel
theorem dX11_rises_73 : decode cX11_rises 73 = .ok (.getfield 239, 3) := by decide +kernel
theorem dX11_rises_76 : decode cX11_rises 76 = .ok (.iload_n 2, 1) := by decide +kernel
theorem dX11_rises_77 : decode cX11_rises 77 = .ok (.iconst 0, 1) := by decide +kernel
theorem dX11_rises_78 : decode cX11_rises 78 = .ok (.invokestatic 17, 3) := by decide +kernel
theorem dX11_rises_81 : decode cX11_rises 81 = .ok (.istore_n 3, 1) := by decide +kernel
theorem dX11_rises_82 : decode cX11_rises 82 = .ok (.aload_n 0, 1) := by decide +kernel
theorem dX11_rises_83 : decode cX11_rises 83 = .ok (.getfield 239, 3) := by decide +kernel
theorem dX11_rises_86 : decode cX11_rises 86 = .ok (.iload_n 2, 1) := by decide +kernel
theorem dX11_rises_87 : decode cX11_rises 87 = .ok (.iconst 2, 1) := by decide +kernel
theorem dX11_rises_88 : decode cX11_rises 88 = .ok (.invokestatic 17, 3) := by decide +kernel
theorem dX11_rises_91 : decode cX11_rises 91 = .ok (.istore 4, 2) := by decide +kernel
theorem dX11_rises_93 : decode cX11_rises 93 = .ok (.iload_n 1, 1) := by decide +kernel
theorem dX11_rises_94 : decode cX11_rises 94 = .ok (.iconst 1, 1) := by decide +kernel
theorem dX11_rises_95 : decode cX11_rises 95 = .ok (.iand, 1) := by decide +kernel
theorem dX11_rises_96 : decode cX11_rises 96 = .ok (.ifCond .eq 31, 3) := by decide +kernel
theorem dX11_rises_99 : decode cX11_rises 99 = .ok (.aload_n 0, 1) := by decide +kernel
theorem dX11_rises_100 : decode cX11_rises 100 = .ok (.getfield 67, 3) := by decide +kernel
theorem dX11_rises_103 : decode cX11_rises 103 = .ok (.aload_n 0, 1) := by decide +kernel
theorem dX11_rises_104 : decode cX11_rises 104 = .ok (.getfield 239, 3) := by decide +kernel
theorem dX11_rises_107 : decode cX11_rises 107 = .ok (.iconst 1, 1) := by decide +kernel
theorem dX11_rises_108 : decode cX11_rises 108 = .ok (.iadd, 1) := by decide +kernel
theorem dX11_rises_109 : decode cX11_rises 109 = .ok (.iload_n 3, 1) := by decide +kernel
theorem dX11_rises_110 : decode cX11_rises 110 = .ok (.iconst 1, 1) := by decide +kernel
theorem dX11_rises_111 : decode cX11_rises 111 = .ok (.iadd, 1) := by decide +kernel
theorem dX11_rises_112 : decode cX11_rises 112 = .ok (.iload 4, 2) := by decide +kernel
theorem dX11_rises_114 : decode cX11_rises 114 = .ok (.invokestatic 105, 3) := by decide +kernel
theorem dX11_rises_117 : decode cX11_rises 117 = .ok (.dup2, 1) := by decide +kernel
theorem dX11_rises_118 : decode cX11_rises 118 = .ok (.laload, 1) := by decide +kernel
theorem dX11_rises_119 : decode cX11_rises 119 = .ok (.aload_n 0, 1) := by decide +kernel
theorem dX11_rises_120 : decode cX11_rises 120 = .ok (.getfield 70, 3) := by decide +kernel
theorem dX11_rises_123 : decode cX11_rises 123 = .ok (.iload_n 2, 1) := by decide +kernel
theorem dX11_rises_124 : decode cX11_rises 124 = .ok (.laload, 1) := by decide +kernel
theorem dX11_rises_125 : decode cX11_rises 125 = .ok (.ladd, 1) := by decide +kernel
theorem dX11_rises_126 : decode cX11_rises 126 = .ok (.lastore, 1) := by decide +kernel
theorem dX11_rises_127 : decode cX11_rises 127 = .ok (.iload_n 1, 1) := by decide +kernel
theorem dX11_rises_128 : decode cX11_rises 128 = .ok (.iconst 2, 1) := by decide +kernel
theorem dX11_rises_129 : decode cX11_rises 129 = .ok (.iand, 1) := by decide +kernel
theorem dX11_rises_130 : decode cX11_rises 130 = .ok (.ifCond .eq 29, 3) := by decide +kernel
theorem dX11_rises_133 : decode cX11_rises 133 = .ok (.aload_n 0, 1) := by decide +kernel
theorem dX11_rises_134 : decode cX11_rises 134 = .ok (.getfield 67, 3) := by decide +kernel
theorem dX11_rises_137 : decode cX11_rises 137 = .ok (.aload_n 0, 1) := by decide +kernel
theorem dX11_rises_138 : decode cX11_rises 138 = .ok (.getfield 239, 3) := by decide +kernel
theorem dX11_rises_141 : decode cX11_rises 141 = .ok (.iconst 1, 1) := by decide +kernel
theorem dX11_rises_142 : decode cX11_rises 142 = .ok (.iadd, 1) := by decide +kernel
theorem dX11_rises_143 : decode cX11_rises 143 = .ok (.iload_n 3, 1) := by decide +kernel
theorem dX11_rises_144 : decode cX11_rises 144 = .ok (.iload 4, 2) := by decide +kernel
theorem dX11_rises_146 : decode cX11_rises 146 = .ok (.invokestatic 105, 3) := by decide +kernel
theorem dX11_rises_149 : decode cX11_rises 149 = .ok (.dup2, 1) := by decide +kernel
theorem dX11_rises_150 : decode cX11_rises 150 = .ok (.laload, 1) := by decide +kernel
theorem dX11_rises_151 : decode cX11_rises 151 = .ok (.aload_n 0, 1) := by decide +kernel
theorem dX11_rises_152 : decode cX11_rises 152 = .ok (.getfield 70, 3) := by decide +kernel
theorem dX11_rises_155 : decode cX11_rises 155 = .ok (.iload_n 2, 1) := by decide +kernel
theorem dX11_rises_156 : decode cX11_rises 156 = .ok (.laload, 1) := by decide +kernel
theorem dX11_rises_157 : decode cX11_rises 157 = .ok (.ladd, 1) := by decide +kernel
theorem dX11_rises_158 : decode cX11_rises 158 = .ok (.lastore, 1) := by decide +kernel
theorem dX11_rises_159 : decode cX11_rises 159 = .ok (.iload_n 1, 1) := by decide +kernel
theorem dX11_rises_160 : decode cX11_rises 160 = .ok (.iconst 4, 1) := by decide +kernel
theorem dX11_rises_161 : decode cX11_rises 161 = .ok (.iand, 1) := by decide +kernel
theorem dX11_rises_162 : decode cX11_rises 162 = .ok (.ifCond .eq 31, 3) := by decide +kernel
theorem dX11_rises_165 : decode cX11_rises 165 = .ok (.aload_n 0, 1) := by decide +kernel
theorem dX11_rises_166 : decode cX11_rises 166 = .ok (.getfield 67, 3) := by decide +kernel
theorem dX11_rises_169 : decode cX11_rises 169 = .ok (.aload_n 0, 1) := by decide +kernel
theorem dX11_rises_170 : decode cX11_rises 170 = .ok (.getfield 239, 3) := by decide +kernel
theorem dX11_rises_173 : decode cX11_rises 173 = .ok (.iconst 1, 1) := by decide +kernel
theorem dX11_rises_174 : decode cX11_rises 174 = .ok (.iadd, 1) := by decide +kernel
theorem dX11_rises_175 : decode cX11_rises 175 = .ok (.iload_n 3, 1) := by decide +kernel
theorem dX11_rises_176 : decode cX11_rises 176 = .ok (.iload 4, 2) := by decide +kernel
theorem dX11_rises_178 : decode cX11_rises 178 = .ok (.iconst 1, 1) := by decide +kernel
theorem dX11_rises_179 : decode cX11_rises 179 = .ok (.iadd, 1) := by decide +kernel
theorem dX11_rises_180 : decode cX11_rises 180 = .ok (.invokestatic 105, 3) := by decide +kernel
theorem dX11_rises_183 : decode cX11_rises 183 = .ok (.dup2, 1) := by decide +kernel
theorem dX11_rises_184 : decode cX11_rises 184 = .ok (.laload, 1) := by decide +kernel
theorem dX11_rises_185 : decode cX11_rises 185 = .ok (.aload_n 0, 1) := by decide +kernel
theorem dX11_rises_186 : decode cX11_rises 186 = .ok (.getfield 70, 3) := by decide +kernel
theorem dX11_rises_189 : decode cX11_rises 189 = .ok (.iload_n 2, 1) := by decide +kernel
theorem dX11_rises_190 : decode cX11_rises 190 = .ok (.laload, 1) := by decide +kernel
theorem dX11_rises_191 : decode cX11_rises 191 = .ok (.ladd, 1) := by decide +kernel
theorem dX11_rises_192 : decode cX11_rises 192 = .ok (.lastore, 1) := by decide +kernel
theorem dX11_rises_193 : decode cX11_rises 193 = .ok (.iinc 2 1, 3) := by decide +kernel
theorem dX11_rises_196 : decode cX11_rises 196 = .ok (.goto (-135), 3) := by decide +kernel
theorem dX11_rises_199 : decode cX11_rises 199 = .ok (.aload_n 0, 1) := by decide +kernel
theorem dX11_rises_200 : decode cX11_rises 200 = .ok (.dup, 1) := by decide +kernel
theorem dX11_rises_201 : decode cX11_rises 201 = .ok (.getfield 239, 3) := by decide +kernel
theorem dX11_rises_204 : decode cX11_rises 204 = .ok (.iconst 1, 1) := by decide +kernel
theorem dX11_rises_205 : decode cX11_rises 205 = .ok (.iadd, 1) := by decide +kernel
theorem dX11_rises_206 : decode cX11_rises 206 = .ok (.putfield 239, 3) := by decide +kernel
theorem dX11_rises_209 : decode cX11_rises 209 = .ok (.return_, 1) := by decide +kernel
theorem dX11_takes_0 : decode cX11_takes 0 = .ok (.aload_n 0, 1) := by decide +kernel
theorem dX11_takes_1 : decode cX11_takes 1 = .ok (.aload_n 0, 1) := by decide +kernel
theorem dX11_takes_2 : decode cX11_takes 2 = .ok (.getfield 36, 3) := by decide +kernel
theorem dX11_takes_5 : decode cX11_takes 5 = .ok (.iload_n 1, 1) := by decide +kernel
theorem dX11_takes_6 : decode cX11_takes 6 = .ok (.iaload, 1) := by decide +kernel
theorem dX11_takes_7 : decode cX11_takes 7 = .ok (.putfield 239, 3) := by decide +kernel
theorem dX11_takes_10 : decode cX11_takes 10 = .ok (.iconst 0, 1) := by decide +kernel
theorem dX11_takes_11 : decode cX11_takes 11 = .ok (.istore 4, 2) := by decide +kernel
theorem dX11_takes_13 : decode cX11_takes 13 = .ok (.aload_n 0, 1) := by decide +kernel
theorem dX11_takes_14 : decode cX11_takes 14 = .ok (.iload_n 1, 1) := by decide +kernel
theorem dX11_takes_15 : decode cX11_takes 15 = .ok (.iload 4, 2) := by decide +kernel
theorem dX11_takes_17 : decode cX11_takes 17 = .ok (.invokevirtual 111, 3) := by decide +kernel
theorem dX11_takes_20 : decode cX11_takes 20 = .ok (.ifCond .eq 41, 3) := by decide +kernel
theorem dX11_takes_23 : decode cX11_takes 23 = .ok (.aload_n 0, 1) := by decide +kernel
theorem dX11_takes_24 : decode cX11_takes 24 = .ok (.getfield 67, 3) := by decide +kernel
theorem dX11_takes_27 : decode cX11_takes 27 = .ok (.iload 4, 2) := by decide +kernel
theorem dX11_takes_29 : decode cX11_takes 29 = .ok (.aload_n 0, 1) := by decide +kernel
theorem dX11_takes_30 : decode cX11_takes 30 = .ok (.getfield 239, 3) := by decide +kernel
theorem dX11_takes_33 : decode cX11_takes 33 = .ok (.iload 4, 2) := by decide +kernel
theorem dX11_takes_35 : decode cX11_takes 35 = .ok (.iload_n 2, 1) := by decide +kernel
theorem dX11_takes_36 : decode cX11_takes 36 = .ok (.invokestatic 140, 3) := by decide +kernel
theorem dX11_takes_39 : decode cX11_takes 39 = .ok (.ifCond .eq 14, 3) := by decide +kernel
theorem dX11_takes_42 : decode cX11_takes 42 = .ok (.aload_n 0, 1) := by decide +kernel
theorem dX11_takes_43 : decode cX11_takes 43 = .ok (.iload_n 1, 1) := by decide +kernel
theorem dX11_takes_44 : decode cX11_takes 44 = .ok (.iload 4, 2) := by decide +kernel
theorem dX11_takes_46 : decode cX11_takes 46 = .ok (.invokevirtual 115, 3) := by decide +kernel
theorem dX11_takes_49 : decode cX11_takes 49 = .ok (.i2l, 1) := by decide +kernel
theorem dX11_takes_50 : decode cX11_takes 50 = .ok (.goto 4, 3) := by decide +kernel
theorem dX11_takes_53 : decode cX11_takes 53 = .ok (.lconst 0, 1) := by decide +kernel
theorem dX11_takes_54 : decode cX11_takes 54 = .ok (.lastore, 1) := by decide +kernel
theorem dX11_takes_55 : decode cX11_takes 55 = .ok (.iinc 4 1, 3) := by decide +kernel
theorem dX11_takes_58 : decode cX11_takes 58 = .ok (.goto (-45), 3) := by decide +kernel
theorem dX11_takes_61 : decode cX11_takes 61 = .ok (.iconst 0, 1) := by decide +kernel
theorem dX11_takes_62 : decode cX11_takes 62 = .ok (.istore 4, 2) := by decide +kernel
theorem dX11_takes_64 : decode cX11_takes 64 = .ok (.iload 4, 2) := by decide +kernel
theorem dX11_takes_66 : decode cX11_takes 66 = .ok (.iload_n 3, 1) := by decide +kernel
theorem dX11_takes_67 : decode cX11_takes 67 = .ok (.if_icmp .ge 14, 3) := by decide +kernel
theorem dX11_takes_70 : decode cX11_takes 70 = .ok (.aload_n 0, 1) := by decide +kernel
theorem dX11_takes_71 : decode cX11_takes 71 = .ok (.iload_n 2, 1) := by decide +kernel
theorem dX11_takes_72 : decode cX11_takes 72 = .ok (.invokevirtual 242, 3) := by decide +kernel
theorem dX11_takes_75 : decode cX11_takes 75 = .ok (.iinc 4 1, 3) := by decide +kernel
theorem dX11_takes_78 : decode cX11_takes 78 = .ok (.goto (-14), 3) := by decide +kernel
theorem dX11_takes_81 : decode cX11_takes 81 = .ok (.return_, 1) := by decide +kernel
theorem dX11_lifts_0 : decode cX11_lifts 0 = .ok (.aload_n 0, 1) := by decide +kernel
theorem dX11_lifts_1 : decode cX11_lifts 1 = .ok (.getfield 36, 3) := by decide +kernel
theorem dX11_lifts_4 : decode cX11_lifts 4 = .ok (.iload_n 1, 1) := by decide +kernel
theorem dX11_lifts_5 : decode cX11_lifts 5 = .ok (.iaload, 1) := by decide +kernel
theorem dX11_lifts_6 : decode cX11_lifts 6 = .ok (.iload_n 2, 1) := by decide +kernel
theorem dX11_lifts_7 : decode cX11_lifts 7 = .ok (.iadd, 1) := by decide +kernel
theorem dX11_lifts_8 : decode cX11_lifts 8 = .ok (.istore_n 3, 1) := by decide +kernel
theorem dX11_lifts_9 : decode cX11_lifts 9 = .ok (.iload_n 3, 1) := by decide +kernel
theorem dX11_lifts_10 : decode cX11_lifts 10 = .ok (.bipush 6, 2) := by decide +kernel
theorem dX11_lifts_12 : decode cX11_lifts 12 = .ok (.if_icmp .le 6, 3) := by decide +kernel
theorem dX11_lifts_15 : decode cX11_lifts 15 = .ok (.bipush (-6), 2) := by decide +kernel
theorem dX11_lifts_17 : decode cX11_lifts 17 = .ok (.ireturn, 1) := by decide +kernel
theorem dX11_lifts_18 : decode cX11_lifts 18 = .ok (.aload_n 0, 1) := by decide +kernel
theorem dX11_lifts_19 : decode cX11_lifts 19 = .ok (.iload_n 1, 1) := by decide +kernel
theorem dX11_lifts_20 : decode cX11_lifts 20 = .ok (.bipush 7, 2) := by decide +kernel
theorem dX11_lifts_22 : decode cX11_lifts 22 = .ok (.iload_n 2, 1) := by decide +kernel
theorem dX11_lifts_23 : decode cX11_lifts 23 = .ok (.invokevirtual 136, 3) := by decide +kernel
theorem dX11_lifts_26 : decode cX11_lifts 26 = .ok (.iconst 0, 1) := by decide +kernel
theorem dX11_lifts_27 : decode cX11_lifts 27 = .ok (.istore 4, 2) := by decide +kernel
theorem dX11_lifts_29 : decode cX11_lifts 29 = .ok (.iload 4, 2) := by decide +kernel
theorem dX11_lifts_31 : decode cX11_lifts 31 = .ok (.iload_n 3, 1) := by decide +kernel
theorem dX11_lifts_32 : decode cX11_lifts 32 = .ok (.invokestatic 102, 3) := by decide +kernel
theorem dX11_lifts_35 : decode cX11_lifts 35 = .ok (.if_icmp .ge 23, 3) := by decide +kernel
theorem dX11_lifts_38 : decode cX11_lifts 38 = .ok (.aload_n 0, 1) := by decide +kernel
theorem dX11_lifts_39 : decode cX11_lifts 39 = .ok (.getfield 45, 3) := by decide +kernel
theorem dX11_lifts_42 : decode cX11_lifts 42 = .ok (.iload 4, 2) := by decide +kernel
theorem dX11_lifts_44 : decode cX11_lifts 44 = .ok (.aload_n 0, 1) := by decide +kernel
theorem dX11_lifts_45 : decode cX11_lifts 45 = .ok (.getfield 67, 3) := by decide +kernel
theorem dX11_lifts_48 : decode cX11_lifts 48 = .ok (.iload 4, 2) := by decide +kernel
theorem dX11_lifts_50 : decode cX11_lifts 50 = .ok (.laload, 1) := by decide +kernel
theorem dX11_lifts_51 : decode cX11_lifts 51 = .ok (.lastore, 1) := by decide +kernel
theorem dX11_lifts_52 : decode cX11_lifts 52 = .ok (.iinc 4 1, 3) := by decide +kernel
theorem dX11_lifts_55 : decode cX11_lifts 55 = .ok (.goto (-26), 3) := by decide +kernel
theorem dX11_lifts_58 : decode cX11_lifts 58 = .ok (.aload_n 0, 1) := by decide +kernel
theorem dX11_lifts_59 : decode cX11_lifts 59 = .ok (.iload_n 3, 1) := by decide +kernel
theorem dX11_lifts_60 : decode cX11_lifts 60 = .ok (.invokevirtual 133, 3) := by decide +kernel
theorem dX11_lifts_63 : decode cX11_lifts 63 = .ok (.ireturn, 1) := by decide +kernel
theorem dX11_turnsBelow_0 : decode cX11_turnsBelow 0 = .ok (.iconst 0, 1) := by decide +kernel
theorem dX11_turnsBelow_1 : decode cX11_turnsBelow 1 = .ok (.istore_n 2, 1) := by decide +kernel
theorem dX11_turnsBelow_2 : decode cX11_turnsBelow 2 = .ok (.aload_n 0, 1) := by decide +kernel
theorem dX11_turnsBelow_3 : decode cX11_turnsBelow 3 = .ok (.iload_n 1, 1) := by decide +kernel
theorem dX11_turnsBelow_4 : decode cX11_turnsBelow 4 = .ok (.iload_n 2, 1) := by decide +kernel
theorem dX11_turnsBelow_5 : decode cX11_turnsBelow 5 = .ok (.invokevirtual 111, 3) := by decide +kernel
theorem dX11_turnsBelow_8 : decode cX11_turnsBelow 8 = .ok (.ifCond .eq 23, 3) := by decide +kernel
theorem dX11_turnsBelow_11 : decode cX11_turnsBelow 11 = .ok (.aload_n 0, 1) := by decide +kernel
theorem dX11_turnsBelow_12 : decode cX11_turnsBelow 12 = .ok (.getfield 45, 3) := by decide +kernel
theorem dX11_turnsBelow_15 : decode cX11_turnsBelow 15 = .ok (.iload_n 2, 1) := by decide +kernel
theorem dX11_turnsBelow_16 : decode cX11_turnsBelow 16 = .ok (.aload_n 0, 1) := by decide +kernel
theorem dX11_turnsBelow_17 : decode cX11_turnsBelow 17 = .ok (.iload_n 1, 1) := by decide +kernel
theorem dX11_turnsBelow_18 : decode cX11_turnsBelow 18 = .ok (.iload_n 2, 1) := by decide +kernel
theorem dX11_turnsBelow_19 : decode cX11_turnsBelow 19 = .ok (.invokevirtual 115, 3) := by decide +kernel
theorem dX11_turnsBelow_22 : decode cX11_turnsBelow 22 = .ok (.ineg, 1) := by decide +kernel
theorem dX11_turnsBelow_23 : decode cX11_turnsBelow 23 = .ok (.i2l, 1) := by decide +kernel
theorem dX11_turnsBelow_24 : decode cX11_turnsBelow 24 = .ok (.lastore, 1) := by decide +kernel
theorem dX11_turnsBelow_25 : decode cX11_turnsBelow 25 = .ok (.iinc 2 1, 3) := by decide +kernel
theorem dX11_turnsBelow_28 : decode cX11_turnsBelow 28 = .ok (.goto (-26), 3) := by decide +kernel
theorem dX11_turnsBelow_31 : decode cX11_turnsBelow 31 = .ok (.aload_n 0, 1) := by decide +kernel
theorem dX11_turnsBelow_32 : decode cX11_turnsBelow 32 = .ok (.aload_n 0, 1) := by decide +kernel
theorem dX11_turnsBelow_33 : decode cX11_turnsBelow 33 = .ok (.getfield 36, 3) := by decide +kernel
theorem dX11_turnsBelow_36 : decode cX11_turnsBelow 36 = .ok (.iload_n 1, 1) := by decide +kernel
theorem dX11_turnsBelow_37 : decode cX11_turnsBelow 37 = .ok (.iaload, 1) := by decide +kernel
theorem dX11_turnsBelow_38 : decode cX11_turnsBelow 38 = .ok (.invokevirtual 133, 3) := by decide +kernel
theorem dX11_turnsBelow_41 : decode cX11_turnsBelow 41 = .ok (.ireturn, 1) := by decide +kernel
theorem dX11_staysOn_0 : decode cX11_staysOn 0 = .ok (.iconst 0, 1) := by decide +kernel
theorem dX11_staysOn_1 : decode cX11_staysOn 1 = .ok (.istore_n 3, 1) := by decide +kernel
theorem dX11_staysOn_2 : decode cX11_staysOn 2 = .ok (.aload_n 0, 1) := by decide +kernel
theorem dX11_staysOn_3 : decode cX11_staysOn 3 = .ok (.iload_n 1, 1) := by decide +kernel
theorem dX11_staysOn_4 : decode cX11_staysOn 4 = .ok (.iload_n 3, 1) := by decide +kernel
theorem dX11_staysOn_5 : decode cX11_staysOn 5 = .ok (.invokevirtual 111, 3) := by decide +kernel
theorem dX11_staysOn_8 : decode cX11_staysOn 8 = .ok (.ifCond .eq 40, 3) := by decide +kernel
theorem dX11_staysOn_11 : decode cX11_staysOn 11 = .ok (.aload_n 0, 1) := by decide +kernel
theorem dX11_staysOn_12 : decode cX11_staysOn 12 = .ok (.getfield 45, 3) := by decide +kernel
theorem dX11_staysOn_15 : decode cX11_staysOn 15 = .ok (.iload_n 3, 1) := by decide +kernel
theorem dX11_staysOn_16 : decode cX11_staysOn 16 = .ok (.aload_n 0, 1) := by decide +kernel
theorem dX11_staysOn_17 : decode cX11_staysOn 17 = .ok (.getfield 36, 3) := by decide +kernel
theorem dX11_staysOn_20 : decode cX11_staysOn 20 = .ok (.iload_n 1, 1) := by decide +kernel
theorem dX11_staysOn_21 : decode cX11_staysOn 21 = .ok (.iaload, 1) := by decide +kernel
theorem dX11_staysOn_22 : decode cX11_staysOn 22 = .ok (.iload_n 3, 1) := by decide +kernel
theorem dX11_staysOn_23 : decode cX11_staysOn 23 = .ok (.iload_n 2, 1) := by decide +kernel
theorem dX11_staysOn_24 : decode cX11_staysOn 24 = .ok (.invokestatic 140, 3) := by decide +kernel
theorem dX11_staysOn_27 : decode cX11_staysOn 27 = .ok (.ifCond .eq 13, 3) := by decide +kernel
theorem dX11_staysOn_30 : decode cX11_staysOn 30 = .ok (.aload_n 0, 1) := by decide +kernel
theorem dX11_staysOn_31 : decode cX11_staysOn 31 = .ok (.iload_n 1, 1) := by decide +kernel
theorem dX11_staysOn_32 : decode cX11_staysOn 32 = .ok (.iload_n 3, 1) := by decide +kernel
theorem dX11_staysOn_33 : decode cX11_staysOn 33 = .ok (.invokevirtual 115, 3) := by decide +kernel
theorem dX11_staysOn_36 : decode cX11_staysOn 36 = .ok (.i2l, 1) := by decide +kernel
theorem dX11_staysOn_37 : decode cX11_staysOn 37 = .ok (.goto 4, 3) := by decide +kernel
theorem dX11_staysOn_40 : decode cX11_staysOn 40 = .ok (.lconst 0, 1) := by decide +kernel
theorem dX11_staysOn_41 : decode cX11_staysOn 41 = .ok (.lastore, 1) := by decide +kernel
theorem dX11_staysOn_42 : decode cX11_staysOn 42 = .ok (.iinc 3 1, 3) := by decide +kernel
theorem dX11_staysOn_45 : decode cX11_staysOn 45 = .ok (.goto (-43), 3) := by decide +kernel
theorem dX11_staysOn_48 : decode cX11_staysOn 48 = .ok (.aload_n 0, 1) := by decide +kernel
theorem dX11_staysOn_49 : decode cX11_staysOn 49 = .ok (.aload_n 0, 1) := by decide +kernel
theorem dX11_staysOn_50 : decode cX11_staysOn 50 = .ok (.getfield 36, 3) := by decide +kernel
theorem dX11_staysOn_53 : decode cX11_staysOn 53 = .ok (.iload_n 1, 1) := by decide +kernel
theorem dX11_staysOn_54 : decode cX11_staysOn 54 = .ok (.iaload, 1) := by decide +kernel
theorem dX11_staysOn_55 : decode cX11_staysOn 55 = .ok (.invokevirtual 133, 3) := by decide +kernel
theorem dX11_staysOn_58 : decode cX11_staysOn 58 = .ok (.ireturn, 1) := by decide +kernel
theorem dX11_told_0 : decode cX11_told 0 = .ok (.iload_n 1, 1) := by decide +kernel
theorem dX11_told_1 : decode cX11_told 1 = .ok (.ifCond .ge 9, 3) := by decide +kernel
theorem dX11_told_4 : decode cX11_told 4 = .ok (.aload_n 0, 1) := by decide +kernel
theorem dX11_told_5 : decode cX11_told 5 = .ok (.iload_n 1, 1) := by decide +kernel
theorem dX11_told_6 : decode cX11_told 6 = .ok (.invokevirtual 8, 3) := by decide +kernel
theorem dX11_told_9 : decode cX11_told 9 = .ok (.ireturn, 1) := by decide +kernel
theorem dX11_told_10 : decode cX11_told 10 = .ok (.aload_n 0, 1) := by decide +kernel
theorem dX11_told_11 : decode cX11_told 11 = .ok (.iconst 0, 1) := by decide +kernel
theorem dX11_told_12 : decode cX11_told 12 = .ok (.putfield 119, 3) := by decide +kernel
theorem dX11_told_15 : decode cX11_told 15 = .ok (.iload_n 1, 1) := by decide +kernel
theorem dX11_told_16 : decode cX11_told 16 = .ok (.ireturn, 1) := by decide +kernel
theorem dX11_sum_0 : decode cX11_sum 0 = .ok (.aload_n 0, 1) := by decide +kernel
theorem dX11_sum_1 : decode cX11_sum 1 = .ok (.iload_n 1, 1) := by decide +kernel
theorem dX11_sum_2 : decode cX11_sum 2 = .ok (.invokevirtual 143, 3) := by decide +kernel
theorem dX11_sum_5 : decode cX11_sum 5 = .ok (.ifCond .eq 11, 3) := by decide +kernel
theorem dX11_sum_8 : decode cX11_sum 8 = .ok (.aload_n 0, 1) := by decide +kernel
theorem dX11_sum_9 : decode cX11_sum 9 = .ok (.iload_n 2, 1) := by decide +kernel
theorem dX11_sum_10 : decode cX11_sum 10 = .ok (.invokevirtual 143, 3) := by decide +kernel
theorem dX11_sum_13 : decode cX11_sum 13 = .ok (.ifCond .ne 9, 3) := by decide +kernel
theorem dX11_sum_16 : decode cX11_sum 16 = .ok (.aload_n 0, 1) := by decide +kernel
theorem dX11_sum_17 : decode cX11_sum 17 = .ok (.iconst (-1), 1) := by decide +kernel
theorem dX11_sum_18 : decode cX11_sum 18 = .ok (.invokevirtual 8, 3) := by decide +kernel
theorem dX11_sum_21 : decode cX11_sum 21 = .ok (.ireturn, 1) := by decide +kernel
theorem dX11_sum_22 : decode cX11_sum 22 = .ok (.aload_n 0, 1) := by decide +kernel
theorem dX11_sum_23 : decode cX11_sum 23 = .ok (.getfield 36, 3) := by decide +kernel
theorem dX11_sum_26 : decode cX11_sum 26 = .ok (.iload_n 1, 1) := by decide +kernel
theorem dX11_sum_27 : decode cX11_sum 27 = .ok (.iaload, 1) := by decide +kernel
theorem dX11_sum_28 : decode cX11_sum 28 = .ok (.aload_n 0, 1) := by decide +kernel
theorem dX11_sum_29 : decode cX11_sum 29 = .ok (.getfield 36, 3) := by decide +kernel
theorem dX11_sum_32 : decode cX11_sum 32 = .ok (.iload_n 2, 1) := by decide +kernel
theorem dX11_sum_33 : decode cX11_sum 33 = .ok (.iaload, 1) := by decide +kernel
theorem dX11_sum_34 : decode cX11_sum 34 = .ok (.if_icmp .eq 12, 3) := by decide +kernel
theorem dX11_sum_37 : decode cX11_sum 37 = .ok (.aload_n 0, 1) := by decide +kernel
theorem dX11_sum_38 : decode cX11_sum 38 = .ok (.bipush (-3), 2) := by decide +kernel
theorem dX11_sum_40 : decode cX11_sum 40 = .ok (.invokevirtual 8, 3) := by decide +kernel
theorem dX11_sum_43 : decode cX11_sum 43 = .ok (.goto 13, 3) := by decide +kernel
theorem dX11_sum_46 : decode cX11_sum 46 = .ok (.aload_n 0, 1) := by decide +kernel
theorem dX11_sum_47 : decode cX11_sum 47 = .ok (.aload_n 0, 1) := by decide +kernel
theorem dX11_sum_48 : decode cX11_sum 48 = .ok (.iload_n 1, 1) := by decide +kernel
theorem dX11_sum_49 : decode cX11_sum 49 = .ok (.iload_n 2, 1) := by decide +kernel
theorem dX11_sum_50 : decode cX11_sum 50 = .ok (.invokevirtual 146, 3) := by decide +kernel
theorem dX11_sum_53 : decode cX11_sum 53 = .ok (.invokevirtual 149, 3) := by decide +kernel
theorem dX11_sum_56 : decode cX11_sum 56 = .ok (.ireturn, 1) := by decide +kernel
theorem dX11_product_0 : decode cX11_product 0 = .ok (.aload_n 0, 1) := by decide +kernel
theorem dX11_product_1 : decode cX11_product 1 = .ok (.iload_n 1, 1) := by decide +kernel
theorem dX11_product_2 : decode cX11_product 2 = .ok (.invokevirtual 143, 3) := by decide +kernel
theorem dX11_product_5 : decode cX11_product 5 = .ok (.ifCond .eq 11, 3) := by decide +kernel
theorem dX11_product_8 : decode cX11_product 8 = .ok (.aload_n 0, 1) := by decide +kernel
theorem dX11_product_9 : decode cX11_product 9 = .ok (.iload_n 2, 1) := by decide +kernel
theorem dX11_product_10 : decode cX11_product 10 = .ok (.invokevirtual 143, 3) := by decide +kernel
theorem dX11_product_13 : decode cX11_product 13 = .ok (.ifCond .ne 11, 3) := by decide +kernel
theorem dX11_product_16 : decode cX11_product 16 = .ok (.aload_n 0, 1) := by decide +kernel
theorem dX11_product_17 : decode cX11_product 17 = .ok (.iconst (-1), 1) := by decide +kernel
theorem dX11_product_18 : decode cX11_product 18 = .ok (.invokevirtual 8, 3) := by decide +kernel
theorem dX11_product_21 : decode cX11_product 21 = .ok (.goto 13, 3) := by decide +kernel
theorem dX11_product_24 : decode cX11_product 24 = .ok (.aload_n 0, 1) := by decide +kernel
theorem dX11_product_25 : decode cX11_product 25 = .ok (.aload_n 0, 1) := by decide +kernel
theorem dX11_product_26 : decode cX11_product 26 = .ok (.iload_n 1, 1) := by decide +kernel
theorem dX11_product_27 : decode cX11_product 27 = .ok (.iload_n 2, 1) := by decide +kernel
theorem dX11_product_28 : decode cX11_product 28 = .ok (.invokevirtual 151, 3) := by decide +kernel
theorem dX11_product_31 : decode cX11_product 31 = .ok (.invokevirtual 149, 3) := by decide +kernel
theorem dX11_product_34 : decode cX11_product 34 = .ok (.ireturn, 1) := by decide +kernel
theorem dX11_lift_0 : decode cX11_lift 0 = .ok (.aload_n 0, 1) := by decide +kernel
theorem dX11_lift_1 : decode cX11_lift 1 = .ok (.iload_n 1, 1) := by decide +kernel
theorem dX11_lift_2 : decode cX11_lift 2 = .ok (.invokevirtual 143, 3) := by decide +kernel
theorem dX11_lift_5 : decode cX11_lift 5 = .ok (.ifCond .ne 7, 3) := by decide +kernel
theorem dX11_lift_8 : decode cX11_lift 8 = .ok (.iconst (-1), 1) := by decide +kernel
theorem dX11_lift_9 : decode cX11_lift 9 = .ok (.goto 10, 3) := by decide +kernel
theorem dX11_lift_12 : decode cX11_lift 12 = .ok (.iload_n 2, 1) := by decide +kernel
theorem dX11_lift_13 : decode cX11_lift 13 = .ok (.iconst 0, 1) := by decide +kernel
theorem dX11_lift_14 : decode cX11_lift 14 = .ok (.bipush 6, 2) := by decide +kernel
theorem dX11_lift_16 : decode cX11_lift 16 = .ok (.invokestatic 154, 3) := by decide +kernel
theorem dX11_lift_19 : decode cX11_lift 19 = .ok (.istore_n 3, 1) := by decide +kernel
theorem dX11_lift_20 : decode cX11_lift 20 = .ok (.iload_n 3, 1) := by decide +kernel
theorem dX11_lift_21 : decode cX11_lift 21 = .ok (.ifCond .eq 11, 3) := by decide +kernel
theorem dX11_lift_24 : decode cX11_lift 24 = .ok (.aload_n 0, 1) := by decide +kernel
theorem dX11_lift_25 : decode cX11_lift 25 = .ok (.iload_n 3, 1) := by decide +kernel
theorem dX11_lift_26 : decode cX11_lift 26 = .ok (.invokevirtual 8, 3) := by decide +kernel
theorem dX11_lift_29 : decode cX11_lift 29 = .ok (.goto 13, 3) := by decide +kernel
theorem dX11_lift_32 : decode cX11_lift 32 = .ok (.aload_n 0, 1) := by decide +kernel
theorem dX11_lift_33 : decode cX11_lift 33 = .ok (.aload_n 0, 1) := by decide +kernel
theorem dX11_lift_34 : decode cX11_lift 34 = .ok (.iload_n 1, 1) := by decide +kernel
theorem dX11_lift_35 : decode cX11_lift 35 = .ok (.iload_n 2, 1) := by decide +kernel
theorem dX11_lift_36 : decode cX11_lift 36 = .ok (.invokevirtual 157, 3) := by decide +kernel
theorem dX11_lift_39 : decode cX11_lift 39 = .ok (.invokevirtual 149, 3) := by decide +kernel
theorem dX11_lift_42 : decode cX11_lift 42 = .ok (.ireturn, 1) := by decide +kernel
theorem dX11_negative_0 : decode cX11_negative 0 = .ok (.aload_n 0, 1) := by decide +kernel
theorem dX11_negative_1 : decode cX11_negative 1 = .ok (.iload_n 1, 1) := by decide +kernel
theorem dX11_negative_2 : decode cX11_negative 2 = .ok (.invokevirtual 143, 3) := by decide +kernel
theorem dX11_negative_5 : decode cX11_negative 5 = .ok (.ifCond .ne 11, 3) := by decide +kernel
theorem dX11_negative_8 : decode cX11_negative 8 = .ok (.aload_n 0, 1) := by decide +kernel
theorem dX11_negative_9 : decode cX11_negative 9 = .ok (.iconst (-1), 1) := by decide +kernel
theorem dX11_negative_10 : decode cX11_negative 10 = .ok (.invokevirtual 8, 3) := by decide +kernel
theorem dX11_negative_13 : decode cX11_negative 13 = .ok (.goto 12, 3) := by decide +kernel
theorem dX11_negative_16 : decode cX11_negative 16 = .ok (.aload_n 0, 1) := by decide +kernel
theorem dX11_negative_17 : decode cX11_negative 17 = .ok (.aload_n 0, 1) := by decide +kernel
theorem dX11_negative_18 : decode cX11_negative 18 = .ok (.iload_n 1, 1) := by decide +kernel
theorem dX11_negative_19 : decode cX11_negative 19 = .ok (.invokevirtual 160, 3) := by decide +kernel
theorem dX11_negative_22 : decode cX11_negative 22 = .ok (.invokevirtual 149, 3) := by decide +kernel
theorem dX11_negative_25 : decode cX11_negative 25 = .ok (.ireturn, 1) := by decide +kernel
theorem dX11_on_0 : decode cX11_on 0 = .ok (.aload_n 0, 1) := by decide +kernel
theorem dX11_on_1 : decode cX11_on 1 = .ok (.iload_n 1, 1) := by decide +kernel
theorem dX11_on_2 : decode cX11_on 2 = .ok (.invokevirtual 143, 3) := by decide +kernel
theorem dX11_on_5 : decode cX11_on 5 = .ok (.ifCond .eq 10, 3) := by decide +kernel
theorem dX11_on_8 : decode cX11_on 8 = .ok (.iload_n 2, 1) := by decide +kernel
theorem dX11_on_9 : decode cX11_on 9 = .ok (.invokestatic 163, 3) := by decide +kernel
theorem dX11_on_12 : decode cX11_on 12 = .ok (.ifCond .ne 11, 3) := by decide +kernel
theorem dX11_on_15 : decode cX11_on 15 = .ok (.aload_n 0, 1) := by decide +kernel
theorem dX11_on_16 : decode cX11_on 16 = .ok (.iconst (-1), 1) := by decide +kernel
theorem dX11_on_17 : decode cX11_on 17 = .ok (.invokevirtual 8, 3) := by decide +kernel
theorem dX11_on_20 : decode cX11_on 20 = .ok (.goto 13, 3) := by decide +kernel
theorem dX11_on_23 : decode cX11_on 23 = .ok (.aload_n 0, 1) := by decide +kernel
theorem dX11_on_24 : decode cX11_on 24 = .ok (.aload_n 0, 1) := by decide +kernel
theorem dX11_on_25 : decode cX11_on 25 = .ok (.iload_n 1, 1) := by decide +kernel
theorem dX11_on_26 : decode cX11_on 26 = .ok (.iload_n 2, 1) := by decide +kernel
theorem dX11_on_27 : decode cX11_on 27 = .ok (.invokevirtual 166, 3) := by decide +kernel
theorem dX11_on_30 : decode cX11_on 30 = .ok (.invokevirtual 149, 3) := by decide +kernel
theorem dX11_on_33 : decode cX11_on 33 = .ok (.ireturn, 1) := by decide +kernel
theorem dX11_letter_0 : decode cX11_letter 0 = .ok (.iload_n 1, 1) := by decide +kernel
theorem dX11_letter_1 : decode cX11_letter 1 = .ok (.ifCond .ge 10, 3) := by decide +kernel
theorem dX11_letter_4 : decode cX11_letter 4 = .ok (.aload_n 0, 1) := by decide +kernel
theorem dX11_letter_5 : decode cX11_letter 5 = .ok (.bipush (-4), 2) := by decide +kernel
theorem dX11_letter_7 : decode cX11_letter 7 = .ok (.invokevirtual 8, 3) := by decide +kernel
theorem dX11_letter_10 : decode cX11_letter 10 = .ok (.ireturn, 1) := by decide +kernel
theorem dX11_letter_11 : decode cX11_letter 11 = .ok (.iload_n 1, 1) := by decide +kernel
theorem dX11_letter_12 : decode cX11_letter 12 = .ok (.sipush 255, 3) := by decide +kernel
theorem dX11_letter_15 : decode cX11_letter 15 = .ok (.if_icmp .gt 12, 3) := by decide +kernel
theorem dX11_letter_18 : decode cX11_letter 18 = .ok (.aload_n 0, 1) := by decide +kernel
theorem dX11_letter_19 : decode cX11_letter 19 = .ok (.getfield 169, 3) := by decide +kernel
theorem dX11_letter_22 : decode cX11_letter 22 = .ok (.bipush 72, 2) := by decide +kernel
theorem dX11_letter_24 : decode cX11_letter 24 = .ok (.if_icmp .ne 10, 3) := by decide +kernel
theorem dX11_letter_27 : decode cX11_letter 27 = .ok (.aload_n 0, 1) := by decide +kernel
theorem dX11_letter_28 : decode cX11_letter 28 = .ok (.bipush (-6), 2) := by decide +kernel
theorem dX11_letter_30 : decode cX11_letter 30 = .ok (.invokevirtual 8, 3) := by decide +kernel
theorem dX11_letter_33 : decode cX11_letter 33 = .ok (.ireturn, 1) := by decide +kernel
theorem dX11_letter_34 : decode cX11_letter 34 = .ok (.aload_n 0, 1) := by decide +kernel
theorem dX11_letter_35 : decode cX11_letter 35 = .ok (.getfield 49, 3) := by decide +kernel
theorem dX11_letter_38 : decode cX11_letter 38 = .ok (.aload_n 0, 1) := by decide +kernel
theorem dX11_letter_39 : decode cX11_letter 39 = .ok (.getfield 169, 3) := by decide +kernel
theorem dX11_letter_42 : decode cX11_letter 42 = .ok (.iload_n 1, 1) := by decide +kernel
theorem dX11_letter_43 : decode cX11_letter 43 = .ok (.iastore, 1) := by decide +kernel
theorem dX11_letter_44 : decode cX11_letter 44 = .ok (.aload_n 0, 1) := by decide +kernel
theorem dX11_letter_45 : decode cX11_letter 45 = .ok (.dup, 1) := by decide +kernel
theorem dX11_letter_46 : decode cX11_letter 46 = .ok (.getfield 169, 3) := by decide +kernel
theorem dX11_letter_49 : decode cX11_letter 49 = .ok (.iconst 1, 1) := by decide +kernel
theorem dX11_letter_50 : decode cX11_letter 50 = .ok (.iadd, 1) := by decide +kernel
theorem dX11_letter_51 : decode cX11_letter 51 = .ok (.putfield 169, 3) := by decide +kernel
theorem dX11_letter_54 : decode cX11_letter 54 = .ok (.aload_n 0, 1) := by decide +kernel
theorem dX11_letter_55 : decode cX11_letter 55 = .ok (.getfield 169, 3) := by decide +kernel
theorem dX11_letter_58 : decode cX11_letter 58 = .ok (.ireturn, 1) := by decide +kernel
theorem dX11_next_0 : decode cX11_next 0 = .ok (.aload_n 0, 1) := by decide +kernel
theorem dX11_next_1 : decode cX11_next 1 = .ok (.getfield 172, 3) := by decide +kernel
theorem dX11_next_4 : decode cX11_next 4 = .ok (.aload_n 0, 1) := by decide +kernel
theorem dX11_next_5 : decode cX11_next 5 = .ok (.getfield 169, 3) := by decide +kernel
theorem dX11_next_8 : decode cX11_next 8 = .ok (.if_icmp .ge 15, 3) := by decide +kernel
theorem dX11_next_11 : decode cX11_next 11 = .ok (.aload_n 0, 1) := by decide +kernel
theorem dX11_next_12 : decode cX11_next 12 = .ok (.getfield 49, 3) := by decide +kernel
theorem dX11_next_15 : decode cX11_next 15 = .ok (.aload_n 0, 1) := by decide +kernel
theorem dX11_next_16 : decode cX11_next 16 = .ok (.getfield 172, 3) := by decide +kernel
theorem dX11_next_19 : decode cX11_next 19 = .ok (.iaload, 1) := by decide +kernel
theorem dX11_next_20 : decode cX11_next 20 = .ok (.goto 5, 3) := by decide +kernel
theorem dX11_next_23 : decode cX11_next 23 = .ok (.bipush (-9), 2) := by decide +kernel
theorem dX11_next_25 : decode cX11_next 25 = .ok (.ireturn, 1) := by decide +kernel
theorem dX11_isDigit_0 : decode cX11_isDigit 0 = .ok (.aload_n 0, 1) := by decide +kernel
theorem dX11_isDigit_1 : decode cX11_isDigit 1 = .ok (.invokevirtual 175, 3) := by decide +kernel
theorem dX11_isDigit_4 : decode cX11_isDigit 4 = .ok (.bipush 48, 2) := by decide +kernel
theorem dX11_isDigit_6 : decode cX11_isDigit 6 = .ok (.bipush 57, 2) := by decide +kernel
theorem dX11_isDigit_8 : decode cX11_isDigit 8 = .ok (.invokestatic 98, 3) := by decide +kernel
theorem dX11_isDigit_11 : decode cX11_isDigit 11 = .ok (.ireturn, 1) := by decide +kernel
theorem dX11_readsPower_0 : decode cX11_readsPower 0 = .ok (.aload_n 0, 1) := by decide +kernel
theorem dX11_readsPower_1 : decode cX11_readsPower 1 = .ok (.getfield 52, 3) := by decide +kernel
theorem dX11_readsPower_4 : decode cX11_readsPower 4 = .ok (.iload_n 1, 1) := by decide +kernel
theorem dX11_readsPower_5 : decode cX11_readsPower 5 = .ok (.iconst 0, 1) := by decide +kernel
theorem dX11_readsPower_6 : decode cX11_readsPower 6 = .ok (.iastore, 1) := by decide +kernel
theorem dX11_readsPower_7 : decode cX11_readsPower 7 = .ok (.aload_n 0, 1) := by decide +kernel
theorem dX11_readsPower_8 : decode cX11_readsPower 8 = .ok (.invokevirtual 175, 3) := by decide +kernel
theorem dX11_readsPower_11 : decode cX11_readsPower 11 = .ok (.bipush 97, 2) := by decide +kernel
theorem dX11_readsPower_13 : decode cX11_readsPower 13 = .ok (.iload_n 1, 1) := by decide +kernel
theorem dX11_readsPower_14 : decode cX11_readsPower 14 = .ok (.iadd, 1) := by decide +kernel
theorem dX11_readsPower_15 : decode cX11_readsPower 15 = .ok (.if_icmp .eq 5, 3) := by decide +kernel
theorem dX11_readsPower_18 : decode cX11_readsPower 18 = .ok (.iconst 1, 1) := by decide +kernel
theorem dX11_readsPower_19 : decode cX11_readsPower 19 = .ok (.ireturn, 1) := by decide +kernel
theorem dX11_readsPower_20 : decode cX11_readsPower 20 = .ok (.iload_n 2, 1) := by decide +kernel
theorem dX11_readsPower_21 : decode cX11_readsPower 21 = .ok (.iconst 1, 1) := by decide +kernel
theorem dX11_readsPower_22 : decode cX11_readsPower 22 = .ok (.if_icmp .ge 5, 3) := by decide +kernel
theorem dX11_readsPower_25 : decode cX11_readsPower 25 = .ok (.iconst 0, 1) := by decide +kernel
theorem dX11_readsPower_26 : decode cX11_readsPower 26 = .ok (.ireturn, 1) := by decide +kernel
theorem dX11_readsPower_27 : decode cX11_readsPower 27 = .ok (.aload_n 0, 1) := by decide +kernel
theorem dX11_readsPower_28 : decode cX11_readsPower 28 = .ok (.dup, 1) := by decide +kernel
theorem dX11_readsPower_29 : decode cX11_readsPower 29 = .ok (.getfield 172, 3) := by decide +kernel
theorem dX11_readsPower_32 : decode cX11_readsPower 32 = .ok (.iconst 1, 1) := by decide +kernel
theorem dX11_readsPower_33 : decode cX11_readsPower 33 = .ok (.iadd, 1) := by decide +kernel
theorem dX11_readsPower_34 : decode cX11_readsPower 34 = .ok (.putfield 172, 3) := by decide +kernel
theorem dX11_readsPower_37 : decode cX11_readsPower 37 = .ok (.aload_n 0, 1) := by decide +kernel
theorem dX11_readsPower_38 : decode cX11_readsPower 38 = .ok (.getfield 52, 3) := by decide +kernel
theorem dX11_readsPower_41 : decode cX11_readsPower 41 = .ok (.iload_n 1, 1) := by decide +kernel
theorem dX11_readsPower_42 : decode cX11_readsPower 42 = .ok (.iconst 1, 1) := by decide +kernel
theorem dX11_readsPower_43 : decode cX11_readsPower 43 = .ok (.iastore, 1) := by decide +kernel
theorem dX11_readsPower_44 : decode cX11_readsPower 44 = .ok (.aload_n 0, 1) := by decide +kernel
theorem dX11_readsPower_45 : decode cX11_readsPower 45 = .ok (.invokevirtual 175, 3) := by decide +kernel
theorem dX11_readsPower_48 : decode cX11_readsPower 48 = .ok (.bipush 94, 2) := by decide +kernel
theorem dX11_readsPower_50 : decode cX11_readsPower 50 = .ok (.if_icmp .eq 5, 3) := by decide +kernel
theorem dX11_readsPower_53 : decode cX11_readsPower 53 = .ok (.iconst 1, 1) := by decide +kernel
theorem dX11_readsPower_54 : decode cX11_readsPower 54 = .ok (.ireturn, 1) := by decide +kernel
theorem dX11_readsPower_55 : decode cX11_readsPower 55 = .ok (.aload_n 0, 1) := by decide +kernel
theorem dX11_readsPower_56 : decode cX11_readsPower 56 = .ok (.dup, 1) := by decide +kernel
theorem dX11_readsPower_57 : decode cX11_readsPower 57 = .ok (.getfield 172, 3) := by decide +kernel
theorem dX11_readsPower_60 : decode cX11_readsPower 60 = .ok (.iconst 1, 1) := by decide +kernel
theorem dX11_readsPower_61 : decode cX11_readsPower 61 = .ok (.iadd, 1) := by decide +kernel
theorem dX11_readsPower_62 : decode cX11_readsPower 62 = .ok (.putfield 172, 3) := by decide +kernel
theorem dX11_readsPower_65 : decode cX11_readsPower 65 = .ok (.aload_n 0, 1) := by decide +kernel
theorem dX11_readsPower_66 : decode cX11_readsPower 66 = .ok (.invokevirtual 175, 3) := by decide +kernel
theorem dX11_readsPower_69 : decode cX11_readsPower 69 = .ok (.bipush 49, 2) := by decide +kernel
theorem dX11_readsPower_71 : decode cX11_readsPower 71 = .ok (.bipush 54, 2) := by decide +kernel
theorem dX11_readsPower_73 : decode cX11_readsPower 73 = .ok (.invokestatic 98, 3) := by decide +kernel
theorem dX11_readsPower_76 : decode cX11_readsPower 76 = .ok (.ifCond .eq 14, 3) := by decide +kernel
theorem dX11_readsPower_79 : decode cX11_readsPower 79 = .ok (.aload_n 0, 1) := by decide +kernel
theorem dX11_readsPower_80 : decode cX11_readsPower 80 = .ok (.invokevirtual 175, 3) := by decide +kernel
theorem dX11_readsPower_83 : decode cX11_readsPower 83 = .ok (.bipush 48, 2) := by decide +kernel
theorem dX11_readsPower_85 : decode cX11_readsPower 85 = .ok (.isub, 1) := by decide +kernel
theorem dX11_readsPower_86 : decode cX11_readsPower 86 = .ok (.iload_n 2, 1) := by decide +kernel
theorem dX11_readsPower_87 : decode cX11_readsPower 87 = .ok (.if_icmp .le 5, 3) := by decide +kernel
theorem dX11_readsPower_90 : decode cX11_readsPower 90 = .ok (.iconst 0, 1) := by decide +kernel
theorem dX11_readsPower_91 : decode cX11_readsPower 91 = .ok (.ireturn, 1) := by decide +kernel
theorem dX11_readsPower_92 : decode cX11_readsPower 92 = .ok (.aload_n 0, 1) := by decide +kernel
theorem dX11_readsPower_93 : decode cX11_readsPower 93 = .ok (.getfield 52, 3) := by decide +kernel
theorem dX11_readsPower_96 : decode cX11_readsPower 96 = .ok (.iload_n 1, 1) := by decide +kernel
theorem dX11_readsPower_97 : decode cX11_readsPower 97 = .ok (.aload_n 0, 1) := by decide +kernel
theorem dX11_readsPower_98 : decode cX11_readsPower 98 = .ok (.invokevirtual 175, 3) := by decide +kernel
theorem dX11_readsPower_101 : decode cX11_readsPower 101 = .ok (.bipush 48, 2) := by decide +kernel
theorem dX11_readsPower_103 : decode cX11_readsPower 103 = .ok (.isub, 1) := by decide +kernel
theorem dX11_readsPower_104 : decode cX11_readsPower 104 = .ok (.iastore, 1) := by decide +kernel
theorem dX11_readsPower_105 : decode cX11_readsPower 105 = .ok (.aload_n 0, 1) := by decide +kernel
theorem dX11_readsPower_106 : decode cX11_readsPower 106 = .ok (.dup, 1) := by decide +kernel
theorem dX11_readsPower_107 : decode cX11_readsPower 107 = .ok (.getfield 172, 3) := by decide +kernel
theorem dX11_readsPower_110 : decode cX11_readsPower 110 = .ok (.iconst 1, 1) := by decide +kernel
theorem dX11_readsPower_111 : decode cX11_readsPower 111 = .ok (.iadd, 1) := by decide +kernel
theorem dX11_readsPower_112 : decode cX11_readsPower 112 = .ok (.putfield 172, 3) := by decide +kernel
theorem dX11_readsPower_115 : decode cX11_readsPower 115 = .ok (.iconst 1, 1) := by decide +kernel
theorem dX11_readsPower_116 : decode cX11_readsPower 116 = .ok (.ireturn, 1) := by decide +kernel
theorem dX11_readsMember_0 : decode cX11_readsMember 0 = .ok (.iconst 1, 1) := by decide +kernel
theorem dX11_readsMember_1 : decode cX11_readsMember 1 = .ok (.istore_n 3, 1) := by decide +kernel
theorem dX11_readsMember_2 : decode cX11_readsMember 2 = .ok (.aload_n 0, 1) := by decide +kernel
theorem dX11_readsMember_3 : decode cX11_readsMember 3 = .ok (.invokevirtual 179, 3) := by decide +kernel
theorem dX11_readsMember_6 : decode cX11_readsMember 6 = .ok (.istore 4, 2) := by decide +kernel
theorem dX11_readsMember_8 : decode cX11_readsMember 8 = .ok (.iload 4, 2) := by decide +kernel
theorem dX11_readsMember_10 : decode cX11_readsMember 10 = .ok (.ifCond .eq 50, 3) := by decide +kernel
theorem dX11_readsMember_13 : decode cX11_readsMember 13 = .ok (.iconst 0, 1) := by decide +kernel
theorem dX11_readsMember_14 : decode cX11_readsMember 14 = .ok (.istore_n 3, 1) := by decide +kernel
theorem dX11_readsMember_15 : decode cX11_readsMember 15 = .ok (.iconst 0, 1) := by decide +kernel
theorem dX11_readsMember_16 : decode cX11_readsMember 16 = .ok (.istore 5, 2) := by decide +kernel
theorem dX11_readsMember_18 : decode cX11_readsMember 18 = .ok (.iload 5, 2) := by decide +kernel
theorem dX11_readsMember_20 : decode cX11_readsMember 20 = .ok (.iconst 3, 1) := by decide +kernel
theorem dX11_readsMember_21 : decode cX11_readsMember 21 = .ok (.if_icmp .ge 39, 3) := by decide +kernel
theorem dX11_readsMember_24 : decode cX11_readsMember 24 = .ok (.aload_n 0, 1) := by decide +kernel
theorem dX11_readsMember_25 : decode cX11_readsMember 25 = .ok (.invokevirtual 179, 3) := by decide +kernel
theorem dX11_readsMember_28 : decode cX11_readsMember 28 = .ok (.ifCond .eq 32, 3) := by decide +kernel
theorem dX11_readsMember_31 : decode cX11_readsMember 31 = .ok (.bipush 10, 2) := by decide +kernel
theorem dX11_readsMember_33 : decode cX11_readsMember 33 = .ok (.iload_n 3, 1) := by decide +kernel
theorem dX11_readsMember_34 : decode cX11_readsMember 34 = .ok (.imul, 1) := by decide +kernel
theorem dX11_readsMember_35 : decode cX11_readsMember 35 = .ok (.aload_n 0, 1) := by decide +kernel
theorem dX11_readsMember_36 : decode cX11_readsMember 36 = .ok (.invokevirtual 175, 3) := by decide +kernel
theorem dX11_readsMember_39 : decode cX11_readsMember 39 = .ok (.iadd, 1) := by decide +kernel
theorem dX11_readsMember_40 : decode cX11_readsMember 40 = .ok (.bipush 48, 2) := by decide +kernel
theorem dX11_readsMember_42 : decode cX11_readsMember 42 = .ok (.isub, 1) := by decide +kernel
theorem dX11_readsMember_43 : decode cX11_readsMember 43 = .ok (.istore_n 3, 1) := by decide +kernel
theorem dX11_readsMember_44 : decode cX11_readsMember 44 = .ok (.aload_n 0, 1) := by decide +kernel
theorem dX11_readsMember_45 : decode cX11_readsMember 45 = .ok (.dup, 1) := by decide +kernel
theorem dX11_readsMember_46 : decode cX11_readsMember 46 = .ok (.getfield 172, 3) := by decide +kernel
theorem dX11_readsMember_49 : decode cX11_readsMember 49 = .ok (.iconst 1, 1) := by decide +kernel
theorem dX11_readsMember_50 : decode cX11_readsMember 50 = .ok (.iadd, 1) := by decide +kernel
theorem dX11_readsMember_51 : decode cX11_readsMember 51 = .ok (.putfield 172, 3) := by decide +kernel
theorem dX11_readsMember_54 : decode cX11_readsMember 54 = .ok (.iinc 5 1, 3) := by decide +kernel
theorem dX11_readsMember_57 : decode cX11_readsMember 57 = .ok (.goto (-39), 3) := by decide +kernel
theorem dX11_readsMember_60 : decode cX11_readsMember 60 = .ok (.iconst 0, 1) := by decide +kernel
theorem dX11_readsMember_61 : decode cX11_readsMember 61 = .ok (.istore 5, 2) := by decide +kernel
theorem dX11_readsMember_63 : decode cX11_readsMember 63 = .ok (.iconst 0, 1) := by decide +kernel
theorem dX11_readsMember_64 : decode cX11_readsMember 64 = .ok (.istore 6, 2) := by decide +kernel
theorem dX11_readsMember_66 : decode cX11_readsMember 66 = .ok (.iload 6, 2) := by decide +kernel
theorem dX11_readsMember_68 : decode cX11_readsMember 68 = .ok (.iconst 3, 1) := by decide +kernel
theorem dX11_readsMember_69 : decode cX11_readsMember 69 = .ok (.if_icmp .ge 46, 3) := by decide +kernel
theorem dX11_readsMember_72 : decode cX11_readsMember 72 = .ok (.aload_n 0, 1) := by decide +kernel
theorem dX11_readsMember_73 : decode cX11_readsMember 73 = .ok (.iload 6, 2) := by decide +kernel
theorem dX11_readsMember_75 : decode cX11_readsMember 75 = .ok (.iload_n 2, 1) := by decide +kernel
theorem dX11_readsMember_76 : decode cX11_readsMember 76 = .ok (.ifCond .ge 8, 3) := by decide +kernel
theorem dX11_readsMember_79 : decode cX11_readsMember 79 = .ok (.bipush 6, 2) := by decide +kernel
theorem dX11_readsMember_81 : decode cX11_readsMember 81 = .ok (.goto 4, 3) := by decide +kernel
theorem dX11_readsMember_84 : decode cX11_readsMember 84 = .ok (.iload_n 2, 1) := by decide +kernel
theorem dX11_readsMember_85 : decode cX11_readsMember 85 = .ok (.iload 5, 2) := by decide +kernel
theorem dX11_readsMember_87 : decode cX11_readsMember 87 = .ok (.isub, 1) := by decide +kernel
theorem dX11_readsMember_88 : decode cX11_readsMember 88 = .ok (.invokevirtual 183, 3) := by decide +kernel
theorem dX11_readsMember_91 : decode cX11_readsMember 91 = .ok (.ifCond .ne 6, 3) := by decide +kernel
theorem dX11_readsMember_94 : decode cX11_readsMember 94 = .ok (.bipush (-9), 2) := by decide +kernel
theorem dX11_readsMember_96 : decode cX11_readsMember 96 = .ok (.ireturn, 1) := by decide +kernel
theorem dX11_readsMember_97 : decode cX11_readsMember 97 = .ok (.iload 5, 2) := by decide +kernel
theorem dX11_readsMember_99 : decode cX11_readsMember 99 = .ok (.aload_n 0, 1) := by decide +kernel
theorem dX11_readsMember_100 : decode cX11_readsMember 100 = .ok (.getfield 52, 3) := by decide +kernel
theorem dX11_readsMember_103 : decode cX11_readsMember 103 = .ok (.iload 6, 2) := by decide +kernel
theorem dX11_readsMember_105 : decode cX11_readsMember 105 = .ok (.iaload, 1) := by decide +kernel
theorem dX11_readsMember_106 : decode cX11_readsMember 106 = .ok (.iadd, 1) := by decide +kernel
theorem dX11_readsMember_107 : decode cX11_readsMember 107 = .ok (.istore 5, 2) := by decide +kernel
theorem dX11_readsMember_109 : decode cX11_readsMember 109 = .ok (.iinc 6 1, 3) := by decide +kernel
theorem dX11_readsMember_112 : decode cX11_readsMember 112 = .ok (.goto (-46), 3) := by decide +kernel
theorem dX11_readsMember_115 : decode cX11_readsMember 115 = .ok (.iload 4, 2) := by decide +kernel
theorem dX11_readsMember_117 : decode cX11_readsMember 117 = .ok (.ifCond .ne 8, 3) := by decide +kernel
theorem dX11_readsMember_120 : decode cX11_readsMember 120 = .ok (.iload 5, 2) := by decide +kernel
theorem dX11_readsMember_122 : decode cX11_readsMember 122 = .ok (.ifCond .eq 13, 3) := by decide +kernel
theorem dX11_readsMember_125 : decode cX11_readsMember 125 = .ok (.iload_n 2, 1) := by decide +kernel
theorem dX11_readsMember_126 : decode cX11_readsMember 126 = .ok (.ifCond .lt 12, 3) := by decide +kernel
theorem dX11_readsMember_129 : decode cX11_readsMember 129 = .ok (.iload 5, 2) := by decide +kernel
theorem dX11_readsMember_131 : decode cX11_readsMember 131 = .ok (.iload_n 2, 1) := by decide +kernel
theorem dX11_readsMember_132 : decode cX11_readsMember 132 = .ok (.if_icmp .ge 6, 3) := by decide +kernel
theorem dX11_readsMember_135 : decode cX11_readsMember 135 = .ok (.bipush (-9), 2) := by decide +kernel
theorem dX11_readsMember_137 : decode cX11_readsMember 137 = .ok (.ireturn, 1) := by decide +kernel
theorem dX11_readsMember_138 : decode cX11_readsMember 138 = .ok (.aload_n 0, 1) := by decide +kernel
theorem dX11_readsMember_139 : decode cX11_readsMember 139 = .ok (.getfield 45, 3) := by decide +kernel
theorem dX11_readsMember_142 : decode cX11_readsMember 142 = .ok (.iload 5, 2) := by decide +kernel
theorem dX11_readsMember_144 : decode cX11_readsMember 144 = .ok (.aload_n 0, 1) := by decide +kernel
theorem dX11_readsMember_145 : decode cX11_readsMember 145 = .ok (.getfield 52, 3) := by decide +kernel
theorem dX11_readsMember_148 : decode cX11_readsMember 148 = .ok (.iconst 0, 1) := by decide +kernel
theorem dX11_readsMember_149 : decode cX11_readsMember 149 = .ok (.iaload, 1) := by decide +kernel
theorem dX11_readsMember_150 : decode cX11_readsMember 150 = .ok (.aload_n 0, 1) := by decide +kernel
theorem dX11_readsMember_151 : decode cX11_readsMember 151 = .ok (.getfield 52, 3) := by decide +kernel
theorem dX11_readsMember_154 : decode cX11_readsMember 154 = .ok (.iconst 2, 1) := by decide +kernel
theorem dX11_readsMember_155 : decode cX11_readsMember 155 = .ok (.iaload, 1) := by decide +kernel
theorem dX11_readsMember_156 : decode cX11_readsMember 156 = .ok (.invokestatic 105, 3) := by decide +kernel
theorem dX11_readsMember_159 : decode cX11_readsMember 159 = .ok (.dup2, 1) := by decide +kernel
theorem dX11_readsMember_160 : decode cX11_readsMember 160 = .ok (.laload, 1) := by decide +kernel
theorem dX11_readsMember_161 : decode cX11_readsMember 161 = .ok (.iload_n 1, 1) := by decide +kernel
theorem dX11_readsMember_162 : decode cX11_readsMember 162 = .ok (.ifCond .eq 9, 3) := by decide +kernel
theorem dX11_readsMember_165 : decode cX11_readsMember 165 = .ok (.iload_n 3, 1) := by decide +kernel
theorem dX11_readsMember_166 : decode cX11_readsMember 166 = .ok (.ineg, 1) := by decide +kernel
theorem dX11_readsMember_167 : decode cX11_readsMember 167 = .ok (.i2l, 1) := by decide +kernel
theorem dX11_readsMember_168 : decode cX11_readsMember 168 = .ok (.goto 5, 3) := by decide +kernel
theorem dX11_readsMember_171 : decode cX11_readsMember 171 = .ok (.iload_n 3, 1) := by decide +kernel
theorem dX11_readsMember_172 : decode cX11_readsMember 172 = .ok (.i2l, 1) := by decide +kernel
theorem dX11_readsMember_173 : decode cX11_readsMember 173 = .ok (.ladd, 1) := by decide +kernel
theorem dX11_readsMember_174 : decode cX11_readsMember 174 = .ok (.lastore, 1) := by decide +kernel
theorem dX11_readsMember_175 : decode cX11_readsMember 175 = .ok (.iload 5, 2) := by decide +kernel
theorem dX11_readsMember_177 : decode cX11_readsMember 177 = .ok (.ireturn, 1) := by decide +kernel
theorem dX11_readsForm_0 : decode cX11_readsForm 0 = .ok (.iconst 0, 1) := by decide +kernel
theorem dX11_readsForm_1 : decode cX11_readsForm 1 = .ok (.istore_n 1, 1) := by decide +kernel
theorem dX11_readsForm_2 : decode cX11_readsForm 2 = .ok (.iload_n 1, 1) := by decide +kernel
theorem dX11_readsForm_3 : decode cX11_readsForm 3 = .ok (.bipush 28, 2) := by decide +kernel
theorem dX11_readsForm_5 : decode cX11_readsForm 5 = .ok (.if_icmp .ge 16, 3) := by decide +kernel
theorem dX11_readsForm_8 : decode cX11_readsForm 8 = .ok (.aload_n 0, 1) := by decide +kernel
theorem dX11_readsForm_9 : decode cX11_readsForm 9 = .ok (.getfield 45, 3) := by decide +kernel
theorem dX11_readsForm_12 : decode cX11_readsForm 12 = .ok (.iload_n 1, 1) := by decide +kernel
theorem dX11_readsForm_13 : decode cX11_readsForm 13 = .ok (.lconst 0, 1) := by decide +kernel
theorem dX11_readsForm_14 : decode cX11_readsForm 14 = .ok (.lastore, 1) := by decide +kernel
theorem dX11_readsForm_15 : decode cX11_readsForm 15 = .ok (.iinc 1 1, 3) := by decide +kernel
theorem dX11_readsForm_18 : decode cX11_readsForm 18 = .ok (.goto (-16), 3) := by decide +kernel
theorem dX11_readsForm_21 : decode cX11_readsForm 21 = .ok (.aload_n 0, 1) := by decide +kernel
theorem dX11_readsForm_22 : decode cX11_readsForm 22 = .ok (.invokevirtual 175, 3) := by decide +kernel
theorem dX11_readsForm_25 : decode cX11_readsForm 25 = .ok (.bipush 45, 2) := by decide +kernel
theorem dX11_readsForm_27 : decode cX11_readsForm 27 = .ok (.if_icmp .ne 7, 3) := by decide +kernel
theorem dX11_readsForm_30 : decode cX11_readsForm 30 = .ok (.iconst 1, 1) := by decide +kernel
theorem dX11_readsForm_31 : decode cX11_readsForm 31 = .ok (.goto 4, 3) := by decide +kernel
theorem dX11_readsForm_34 : decode cX11_readsForm 34 = .ok (.iconst 0, 1) := by decide +kernel
theorem dX11_readsForm_35 : decode cX11_readsForm 35 = .ok (.istore_n 1, 1) := by decide +kernel
theorem dX11_readsForm_36 : decode cX11_readsForm 36 = .ok (.aload_n 0, 1) := by decide +kernel
theorem dX11_readsForm_37 : decode cX11_readsForm 37 = .ok (.dup, 1) := by decide +kernel
theorem dX11_readsForm_38 : decode cX11_readsForm 38 = .ok (.getfield 172, 3) := by decide +kernel
theorem dX11_readsForm_41 : decode cX11_readsForm 41 = .ok (.iload_n 1, 1) := by decide +kernel
theorem dX11_readsForm_42 : decode cX11_readsForm 42 = .ok (.ifCond .eq 7, 3) := by decide +kernel
theorem dX11_readsForm_45 : decode cX11_readsForm 45 = .ok (.iconst 1, 1) := by decide +kernel
theorem dX11_readsForm_46 : decode cX11_readsForm 46 = .ok (.goto 4, 3) := by decide +kernel
theorem dX11_readsForm_49 : decode cX11_readsForm 49 = .ok (.iconst 0, 1) := by decide +kernel
theorem dX11_readsForm_50 : decode cX11_readsForm 50 = .ok (.iadd, 1) := by decide +kernel
theorem dX11_readsForm_51 : decode cX11_readsForm 51 = .ok (.putfield 172, 3) := by decide +kernel
theorem dX11_readsForm_54 : decode cX11_readsForm 54 = .ok (.aload_n 0, 1) := by decide +kernel
theorem dX11_readsForm_55 : decode cX11_readsForm 55 = .ok (.iload_n 1, 1) := by decide +kernel
theorem dX11_readsForm_56 : decode cX11_readsForm 56 = .ok (.bipush (-9), 2) := by decide +kernel
theorem dX11_readsForm_58 : decode cX11_readsForm 58 = .ok (.invokevirtual 186, 3) := by decide +kernel
theorem dX11_readsForm_61 : decode cX11_readsForm 61 = .ok (.istore_n 2, 1) := by decide +kernel
theorem dX11_readsForm_62 : decode cX11_readsForm 62 = .ok (.iload_n 2, 1) := by decide +kernel
theorem dX11_readsForm_63 : decode cX11_readsForm 63 = .ok (.istore_n 3, 1) := by decide +kernel
theorem dX11_readsForm_64 : decode cX11_readsForm 64 = .ok (.iload_n 3, 1) := by decide +kernel
theorem dX11_readsForm_65 : decode cX11_readsForm 65 = .ok (.ifCond .lt 61, 3) := by decide +kernel
theorem dX11_readsForm_68 : decode cX11_readsForm 68 = .ok (.aload_n 0, 1) := by decide +kernel
theorem dX11_readsForm_69 : decode cX11_readsForm 69 = .ok (.invokevirtual 175, 3) := by decide +kernel
theorem dX11_readsForm_72 : decode cX11_readsForm 72 = .ok (.bipush 43, 2) := by decide +kernel
theorem dX11_readsForm_74 : decode cX11_readsForm 74 = .ok (.if_icmp .eq 12, 3) := by decide +kernel
theorem dX11_readsForm_77 : decode cX11_readsForm 77 = .ok (.aload_n 0, 1) := by decide +kernel
theorem dX11_readsForm_78 : decode cX11_readsForm 78 = .ok (.invokevirtual 175, 3) := by decide +kernel
theorem dX11_readsForm_81 : decode cX11_readsForm 81 = .ok (.bipush 45, 2) := by decide +kernel
theorem dX11_readsForm_83 : decode cX11_readsForm 83 = .ok (.if_icmp .ne 43, 3) := by decide +kernel
theorem dX11_readsForm_86 : decode cX11_readsForm 86 = .ok (.aload_n 0, 1) := by decide +kernel
theorem dX11_readsForm_87 : decode cX11_readsForm 87 = .ok (.dup, 1) := by decide +kernel
theorem dX11_readsForm_88 : decode cX11_readsForm 88 = .ok (.getfield 172, 3) := by decide +kernel
theorem dX11_readsForm_91 : decode cX11_readsForm 91 = .ok (.iconst 1, 1) := by decide +kernel
theorem dX11_readsForm_92 : decode cX11_readsForm 92 = .ok (.iadd, 1) := by decide +kernel
theorem dX11_readsForm_93 : decode cX11_readsForm 93 = .ok (.putfield 172, 3) := by decide +kernel
theorem dX11_readsForm_96 : decode cX11_readsForm 96 = .ok (.aload_n 0, 1) := by decide +kernel
theorem dX11_readsForm_97 : decode cX11_readsForm 97 = .ok (.aload_n 0, 1) := by decide +kernel
theorem dX11_readsForm_98 : decode cX11_readsForm 98 = .ok (.getfield 49, 3) := by decide +kernel
theorem dX11_readsForm_101 : decode cX11_readsForm 101 = .ok (.aload_n 0, 1) := by decide +kernel
theorem dX11_readsForm_102 : decode cX11_readsForm 102 = .ok (.getfield 172, 3) := by decide +kernel
theorem dX11_readsForm_105 : decode cX11_readsForm 105 = .ok (.iconst 1, 1) := by decide +kernel
theorem dX11_readsForm_106 : decode cX11_readsForm 106 = .ok (.isub, 1) := by decide +kernel
theorem dX11_readsForm_107 : decode cX11_readsForm 107 = .ok (.iaload, 1) := by decide +kernel
theorem dX11_readsForm_108 : decode cX11_readsForm 108 = .ok (.bipush 45, 2) := by decide +kernel
theorem dX11_readsForm_110 : decode cX11_readsForm 110 = .ok (.if_icmp .ne 7, 3) := by decide +kernel
theorem dX11_readsForm_113 : decode cX11_readsForm 113 = .ok (.iconst 1, 1) := by decide +kernel
theorem dX11_readsForm_114 : decode cX11_readsForm 114 = .ok (.goto 4, 3) := by decide +kernel
theorem dX11_readsForm_117 : decode cX11_readsForm 117 = .ok (.iconst 0, 1) := by decide +kernel
theorem dX11_readsForm_118 : decode cX11_readsForm 118 = .ok (.iload_n 2, 1) := by decide +kernel
theorem dX11_readsForm_119 : decode cX11_readsForm 119 = .ok (.invokevirtual 186, 3) := by decide +kernel
theorem dX11_readsForm_122 : decode cX11_readsForm 122 = .ok (.istore_n 3, 1) := by decide +kernel
theorem dX11_readsForm_123 : decode cX11_readsForm 123 = .ok (.goto (-59), 3) := by decide +kernel
theorem dX11_readsForm_126 : decode cX11_readsForm 126 = .ok (.iload_n 3, 1) := by decide +kernel
theorem dX11_readsForm_127 : decode cX11_readsForm 127 = .ok (.ifCond .lt 18, 3) := by decide +kernel
theorem dX11_readsForm_130 : decode cX11_readsForm 130 = .ok (.aload_n 0, 1) := by decide +kernel
theorem dX11_readsForm_131 : decode cX11_readsForm 131 = .ok (.getfield 172, 3) := by decide +kernel
theorem dX11_readsForm_134 : decode cX11_readsForm 134 = .ok (.aload_n 0, 1) := by decide +kernel
theorem dX11_readsForm_135 : decode cX11_readsForm 135 = .ok (.getfield 169, 3) := by decide +kernel
theorem dX11_readsForm_138 : decode cX11_readsForm 138 = .ok (.if_icmp .ne 7, 3) := by decide +kernel
theorem dX11_readsForm_141 : decode cX11_readsForm 141 = .ok (.iload_n 2, 1) := by decide +kernel
theorem dX11_readsForm_142 : decode cX11_readsForm 142 = .ok (.goto 5, 3) := by decide +kernel
theorem dX11_readsForm_145 : decode cX11_readsForm 145 = .ok (.bipush (-9), 2) := by decide +kernel
theorem dX11_readsForm_147 : decode cX11_readsForm 147 = .ok (.ireturn, 1) := by decide +kernel
theorem dX11_form_0 : decode cX11_form 0 = .ok (.aload_n 0, 1) := by decide +kernel
theorem dX11_form_1 : decode cX11_form 1 = .ok (.getfield 95, 3) := by decide +kernel
theorem dX11_form_4 : decode cX11_form 4 = .ok (.bipush 6, 2) := by decide +kernel
theorem dX11_form_6 : decode cX11_form 6 = .ok (.if_icmp .ne 10, 3) := by decide +kernel
theorem dX11_form_9 : decode cX11_form 9 = .ok (.aload_n 0, 1) := by decide +kernel
theorem dX11_form_10 : decode cX11_form 10 = .ok (.bipush (-6), 2) := by decide +kernel
theorem dX11_form_12 : decode cX11_form 12 = .ok (.invokevirtual 8, 3) := by decide +kernel
theorem dX11_form_15 : decode cX11_form 15 = .ok (.ireturn, 1) := by decide +kernel
theorem dX11_form_16 : decode cX11_form 16 = .ok (.aload_n 0, 1) := by decide +kernel
theorem dX11_form_17 : decode cX11_form 17 = .ok (.iconst 0, 1) := by decide +kernel
theorem dX11_form_18 : decode cX11_form 18 = .ok (.putfield 172, 3) := by decide +kernel
theorem dX11_form_21 : decode cX11_form 21 = .ok (.aload_n 0, 1) := by decide +kernel
theorem dX11_form_22 : decode cX11_form 22 = .ok (.invokevirtual 190, 3) := by decide +kernel
theorem dX11_form_25 : decode cX11_form 25 = .ok (.istore_n 1, 1) := by decide +kernel
theorem dX11_form_26 : decode cX11_form 26 = .ok (.aload_n 0, 1) := by decide +kernel
theorem dX11_form_27 : decode cX11_form 27 = .ok (.iconst 0, 1) := by decide +kernel
theorem dX11_form_28 : decode cX11_form 28 = .ok (.putfield 169, 3) := by decide +kernel
theorem dX11_form_31 : decode cX11_form 31 = .ok (.iload_n 1, 1) := by decide +kernel
theorem dX11_form_32 : decode cX11_form 32 = .ok (.ifCond .ge 12, 3) := by decide +kernel
theorem dX11_form_35 : decode cX11_form 35 = .ok (.sipush (-1000), 3) := by decide +kernel
theorem dX11_form_38 : decode cX11_form 38 = .ok (.aload_n 0, 1) := by decide +kernel
theorem dX11_form_39 : decode cX11_form 39 = .ok (.getfield 172, 3) := by decide +kernel
theorem dX11_form_42 : decode cX11_form 42 = .ok (.isub, 1) := by decide +kernel
theorem dX11_form_43 : decode cX11_form 43 = .ok (.ireturn, 1) := by decide +kernel
theorem dX11_form_44 : decode cX11_form 44 = .ok (.aload_n 0, 1) := by decide +kernel
theorem dX11_form_45 : decode cX11_form 45 = .ok (.iconst 0, 1) := by decide +kernel
theorem dX11_form_46 : decode cX11_form 46 = .ok (.putfield 119, 3) := by decide +kernel
theorem dX11_form_49 : decode cX11_form 49 = .ok (.aload_n 0, 1) := by decide +kernel
theorem dX11_form_50 : decode cX11_form 50 = .ok (.iload_n 1, 1) := by decide +kernel
theorem dX11_form_51 : decode cX11_form 51 = .ok (.invokevirtual 130, 3) := by decide +kernel
theorem dX11_form_54 : decode cX11_form 54 = .ok (.ireturn, 1) := by decide +kernel
