theorem dX10_put_0 : decode cX10_put 0 = .ok (.iload_n 1, 1) := by decide +kernel
theorem dX10_put_1 : decode cX10_put 1 = .ok (.iconst 3, 1) := by decide +kernel
theorem dX10_put_2 : decode cX10_put 2 = .ok (.invokestatic 128, 3) := by decide +kernel
theorem dX10_put_5 : decode cX10_put 5 = .ok (.ifCond .eq 9, 3) := by decide +kernel
theorem dX10_put_8 : decode cX10_put 8 = .ok (.aload_n 0, 1) := by decide +kernel
theorem dX10_put_9 : decode cX10_put 9 = .ok (.iconst (-1), 1) := by decide +kernel
theorem dX10_put_10 : decode cX10_put 10 = .ok (.invokevirtual 69, 3) := by decide +kernel
theorem dX10_put_13 : decode cX10_put 13 = .ok (.ireturn, 1) := by decide +kernel
theorem dX10_put_14 : decode cX10_put 14 = .ok (.aload_n 0, 1) := by decide +kernel
theorem dX10_put_15 : decode cX10_put 15 = .ok (.getfield 61, 3) := by decide +kernel
theorem dX10_put_18 : decode cX10_put 18 = .ok (.iload_n 1, 1) := by decide +kernel
theorem dX10_put_19 : decode cX10_put 19 = .ok (.invokevirtual 211, 3) := by decide +kernel
theorem dX10_put_22 : decode cX10_put 22 = .ok (.ifCond .eq 6, 3) := by decide +kernel
theorem dX10_put_25 : decode cX10_put 25 = .ok (.bipush (-11), 2) := by decide +kernel
theorem dX10_put_27 : decode cX10_put 27 = .ok (.ireturn, 1) := by decide +kernel
theorem dX10_put_28 : decode cX10_put 28 = .ok (.iload_n 2, 1) := by decide +kernel
theorem dX10_put_29 : decode cX10_put 29 = .ok (.aload_n 0, 1) := by decide +kernel
theorem dX10_put_30 : decode cX10_put 30 = .ok (.getfield 61, 3) := by decide +kernel
theorem dX10_put_33 : decode cX10_put 33 = .ok (.getfield 217, 3) := by decide +kernel
theorem dX10_put_36 : decode cX10_put 36 = .ok (.iload_n 1, 1) := by decide +kernel
theorem dX10_put_37 : decode cX10_put 37 = .ok (.iaload, 1) := by decide +kernel
theorem dX10_put_38 : decode cX10_put 38 = .ok (.invokestatic 128, 3) := by decide +kernel
theorem dX10_put_41 : decode cX10_put 41 = .ok (.ifCond .eq 6, 3) := by decide +kernel
theorem dX10_put_44 : decode cX10_put 44 = .ok (.bipush (-13), 2) := by decide +kernel
theorem dX10_put_46 : decode cX10_put 46 = .ok (.ireturn, 1) := by decide +kernel
theorem dX10_put_47 : decode cX10_put 47 = .ok (.aload_n 0, 1) := by decide +kernel
theorem dX10_put_48 : decode cX10_put 48 = .ok (.getfield 61, 3) := by decide +kernel
theorem dX10_put_51 : decode cX10_put 51 = .ok (.getfield 276, 3) := by decide +kernel
theorem dX10_put_54 : decode cX10_put 54 = .ok (.iload_n 1, 1) := by decide +kernel
theorem dX10_put_55 : decode cX10_put 55 = .ok (.aaload, 1) := by decide +kernel
theorem dX10_put_56 : decode cX10_put 56 = .ok (.iload_n 2, 1) := by decide +kernel
theorem dX10_put_57 : decode cX10_put 57 = .ok (.iload_n 3, 1) := by decide +kernel
theorem dX10_put_58 : decode cX10_put 58 = .ok (.iastore, 1) := by decide +kernel
theorem dX10_put_59 : decode cX10_put 59 = .ok (.iconst 1, 1) := by decide +kernel
theorem dX10_put_60 : decode cX10_put 60 = .ok (.ireturn, 1) := by decide +kernel
theorem dX10_look_0 : decode cX10_look 0 = .ok (.iload_n 1, 1) := by decide +kernel
theorem dX10_look_1 : decode cX10_look 1 = .ok (.iconst 3, 1) := by decide +kernel
theorem dX10_look_2 : decode cX10_look 2 = .ok (.invokestatic 128, 3) := by decide +kernel
theorem dX10_look_5 : decode cX10_look 5 = .ok (.ifCond .eq 9, 3) := by decide +kernel
theorem dX10_look_8 : decode cX10_look 8 = .ok (.aload_n 0, 1) := by decide +kernel
theorem dX10_look_9 : decode cX10_look 9 = .ok (.iconst (-1), 1) := by decide +kernel
theorem dX10_look_10 : decode cX10_look 10 = .ok (.invokevirtual 152, 3) := by decide +kernel
theorem dX10_look_13 : decode cX10_look 13 = .ok (.lreturn, 1) := by decide +kernel
theorem dX10_look_14 : decode cX10_look 14 = .ok (.aload_n 0, 1) := by decide +kernel
theorem dX10_look_15 : decode cX10_look 15 = .ok (.getfield 61, 3) := by decide +kernel
theorem dX10_look_18 : decode cX10_look 18 = .ok (.iload_n 1, 1) := by decide +kernel
theorem dX10_look_19 : decode cX10_look 19 = .ok (.invokevirtual 211, 3) := by decide +kernel
theorem dX10_look_22 : decode cX10_look 22 = .ok (.ifCond .eq 10, 3) := by decide +kernel
theorem dX10_look_25 : decode cX10_look 25 = .ok (.aload_n 0, 1) := by decide +kernel
theorem dX10_look_26 : decode cX10_look 26 = .ok (.bipush (-11), 2) := by decide +kernel
theorem dX10_look_28 : decode cX10_look 28 = .ok (.invokevirtual 152, 3) := by decide +kernel
theorem dX10_look_31 : decode cX10_look 31 = .ok (.lreturn, 1) := by decide +kernel
theorem dX10_look_32 : decode cX10_look 32 = .ok (.iload_n 2, 1) := by decide +kernel
theorem dX10_look_33 : decode cX10_look 33 = .ok (.aload_n 0, 1) := by decide +kernel
theorem dX10_look_34 : decode cX10_look 34 = .ok (.getfield 61, 3) := by decide +kernel
theorem dX10_look_37 : decode cX10_look 37 = .ok (.getfield 217, 3) := by decide +kernel
theorem dX10_look_40 : decode cX10_look 40 = .ok (.iload_n 1, 1) := by decide +kernel
theorem dX10_look_41 : decode cX10_look 41 = .ok (.iaload, 1) := by decide +kernel
theorem dX10_look_42 : decode cX10_look 42 = .ok (.invokestatic 128, 3) := by decide +kernel
theorem dX10_look_45 : decode cX10_look 45 = .ok (.ifCond .eq 10, 3) := by decide +kernel
theorem dX10_look_48 : decode cX10_look 48 = .ok (.aload_n 0, 1) := by decide +kernel
theorem dX10_look_49 : decode cX10_look 49 = .ok (.bipush (-13), 2) := by decide +kernel
theorem dX10_look_51 : decode cX10_look 51 = .ok (.invokevirtual 152, 3) := by decide +kernel
theorem dX10_look_54 : decode cX10_look 54 = .ok (.lreturn, 1) := by decide +kernel
theorem dX10_look_55 : decode cX10_look 55 = .ok (.aload_n 0, 1) := by decide +kernel
theorem dX10_look_56 : decode cX10_look 56 = .ok (.getfield 61, 3) := by decide +kernel
theorem dX10_look_59 : decode cX10_look 59 = .ok (.getfield 276, 3) := by decide +kernel
theorem dX10_look_62 : decode cX10_look 62 = .ok (.iload_n 1, 1) := by decide +kernel
theorem dX10_look_63 : decode cX10_look 63 = .ok (.aaload, 1) := by decide +kernel
theorem dX10_look_64 : decode cX10_look 64 = .ok (.iload_n 2, 1) := by decide +kernel
theorem dX10_look_65 : decode cX10_look 65 = .ok (.iaload, 1) := by decide +kernel
theorem dX10_look_66 : decode cX10_look 66 = .ok (.i2l, 1) := by decide +kernel
theorem dX10_look_67 : decode cX10_look 67 = .ok (.lreturn, 1) := by decide +kernel
theorem dX10_undo_0 : decode cX10_undo 0 = .ok (.aload_n 0, 1) := by decide +kernel
theorem dX10_undo_1 : decode cX10_undo 1 = .ok (.getfield 54, 3) := by decide +kernel
theorem dX10_undo_4 : decode cX10_undo 4 = .ok (.getfield 105, 3) := by decide +kernel
theorem dX10_undo_7 : decode cX10_undo 7 = .ok (.ifCond .gt 10, 3) := by decide +kernel
theorem dX10_undo_10 : decode cX10_undo 10 = .ok (.aload_n 0, 1) := by decide +kernel
theorem dX10_undo_11 : decode cX10_undo 11 = .ok (.bipush (-3), 2) := by decide +kernel
theorem dX10_undo_13 : decode cX10_undo 13 = .ok (.invokevirtual 69, 3) := by decide +kernel
theorem dX10_undo_16 : decode cX10_undo 16 = .ok (.ireturn, 1) := by decide +kernel
theorem dX10_undo_17 : decode cX10_undo 17 = .ok (.aload_n 0, 1) := by decide +kernel
theorem dX10_undo_18 : decode cX10_undo 18 = .ok (.getfield 54, 3) := by decide +kernel
theorem dX10_undo_21 : decode cX10_undo 21 = .ok (.aload_n 0, 1) := by decide +kernel
theorem dX10_undo_22 : decode cX10_undo 22 = .ok (.getfield 10, 3) := by decide +kernel
theorem dX10_undo_25 : decode cX10_undo 25 = .ok (.invokevirtual 280, 3) := by decide +kernel
theorem dX10_undo_28 : decode cX10_undo 28 = .ok (.aload_n 0, 1) := by decide +kernel
theorem dX10_undo_29 : decode cX10_undo 29 = .ok (.getfield 54, 3) := by decide +kernel
theorem dX10_undo_32 : decode cX10_undo 32 = .ok (.getfield 105, 3) := by decide +kernel
theorem dX10_undo_35 : decode cX10_undo 35 = .ok (.ireturn, 1) := by decide +kernel
theorem dX10_image_0 : decode cX10_image 0 = .ok (.aload_n 0, 1) := by decide +kernel
theorem dX10_image_1 : decode cX10_image 1 = .ok (.getfield 10, 3) := by decide +kernel
theorem dX10_image_4 : decode cX10_image 4 = .ok (.invokevirtual 284, 3) := by decide +kernel
theorem dX10_image_7 : decode cX10_image 7 = .ok (.aload_n 0, 1) := by decide +kernel
theorem dX10_image_8 : decode cX10_image 8 = .ok (.getfield 10, 3) := by decide +kernel
theorem dX10_image_11 : decode cX10_image 11 = .ok (.getfield 89, 3) := by decide +kernel
theorem dX10_image_14 : decode cX10_image 14 = .ok (.ireturn, 1) := by decide +kernel
theorem dX10_back_0 : decode cX10_back 0 = .ok (.aload_n 0, 1) := by decide +kernel
theorem dX10_back_1 : decode cX10_back 1 = .ok (.getfield 10, 3) := by decide +kernel
theorem dX10_back_4 : decode cX10_back 4 = .ok (.getfield 287, 3) := by decide +kernel
theorem dX10_back_7 : decode cX10_back 7 = .ok (.ifCond .ge 10, 3) := by decide +kernel
theorem dX10_back_10 : decode cX10_back 10 = .ok (.aload_n 0, 1) := by decide +kernel
theorem dX10_back_11 : decode cX10_back 11 = .ok (.bipush (-3), 2) := by decide +kernel
theorem dX10_back_13 : decode cX10_back 13 = .ok (.invokevirtual 69, 3) := by decide +kernel
theorem dX10_back_16 : decode cX10_back 16 = .ok (.ireturn, 1) := by decide +kernel
theorem dX10_back_17 : decode cX10_back 17 = .ok (.aload_n 0, 1) := by decide +kernel
theorem dX10_back_18 : decode cX10_back 18 = .ok (.getfield 10, 3) := by decide +kernel
theorem dX10_back_21 : decode cX10_back 21 = .ok (.invokevirtual 290, 3) := by decide +kernel
theorem dX10_back_24 : decode cX10_back 24 = .ok (.aload_n 0, 1) := by decide +kernel
theorem dX10_back_25 : decode cX10_back 25 = .ok (.getfield 54, 3) := by decide +kernel
theorem dX10_back_28 : decode cX10_back 28 = .ok (.iconst 0, 1) := by decide +kernel
theorem dX10_back_29 : decode cX10_back 29 = .ok (.putfield 105, 3) := by decide +kernel
theorem dX10_back_32 : decode cX10_back 32 = .ok (.aload_n 0, 1) := by decide +kernel
theorem dX10_back_33 : decode cX10_back 33 = .ok (.getfield 10, 3) := by decide +kernel
theorem dX10_back_36 : decode cX10_back 36 = .ok (.getfield 89, 3) := by decide +kernel
theorem dX10_back_39 : decode cX10_back 39 = .ok (.ireturn, 1) := by decide +kernel
theorem dX10_count_0 : decode cX10_count 0 = .ok (.iload_n 1, 1) := by decide +kernel
theorem dX10_count_1 : decode cX10_count 1 = .ok (.tableswitch 75 0 4 #[35, 43, 51, 59, 67], 35) := by decide +kernel
theorem dX10_count_36 : decode cX10_count 36 = .ok (.aload_n 0, 1) := by decide +kernel
theorem dX10_count_37 : decode cX10_count 37 = .ok (.getfield 10, 3) := by decide +kernel
theorem dX10_count_40 : decode cX10_count 40 = .ok (.getfield 89, 3) := by decide +kernel
theorem dX10_count_43 : decode cX10_count 43 = .ok (.ireturn, 1) := by decide +kernel
theorem dX10_count_44 : decode cX10_count 44 = .ok (.aload_n 0, 1) := by decide +kernel
theorem dX10_count_45 : decode cX10_count 45 = .ok (.getfield 19, 3) := by decide +kernel
theorem dX10_count_48 : decode cX10_count 48 = .ok (.getfield 73, 3) := by decide +kernel
theorem dX10_count_51 : decode cX10_count 51 = .ok (.ireturn, 1) := by decide +kernel
theorem dX10_count_52 : decode cX10_count 52 = .ok (.aload_n 0, 1) := by decide +kernel
theorem dX10_count_53 : decode cX10_count 53 = .ok (.getfield 10, 3) := by decide +kernel
theorem dX10_count_56 : decode cX10_count 56 = .ok (.invokevirtual 293, 3) := by decide +kernel
theorem dX10_count_59 : decode cX10_count 59 = .ok (.ireturn, 1) := by decide +kernel
theorem dX10_count_60 : decode cX10_count 60 = .ok (.aload_n 0, 1) := by decide +kernel
theorem dX10_count_61 : decode cX10_count 61 = .ok (.getfield 54, 3) := by decide +kernel
theorem dX10_count_64 : decode cX10_count 64 = .ok (.getfield 105, 3) := by decide +kernel
theorem dX10_count_67 : decode cX10_count 67 = .ok (.ireturn, 1) := by decide +kernel
theorem dX10_count_68 : decode cX10_count 68 = .ok (.aload_n 0, 1) := by decide +kernel
theorem dX10_count_69 : decode cX10_count 69 = .ok (.getfield 10, 3) := by decide +kernel
theorem dX10_count_72 : decode cX10_count 72 = .ok (.invokevirtual 297, 3) := by decide +kernel
theorem dX10_count_75 : decode cX10_count 75 = .ok (.ireturn, 1) := by decide +kernel
theorem dX10_count_76 : decode cX10_count 76 = .ok (.iload_n 1, 1) := by decide +kernel
theorem dX10_count_77 : decode cX10_count 77 = .ok (.bipush 11, 2) := by decide +kernel
theorem dX10_count_79 : decode cX10_count 79 = .ok (.if_icmp .lt 21, 3) := by decide +kernel
theorem dX10_count_82 : decode cX10_count 82 = .ok (.iload_n 1, 1) := by decide +kernel
theorem dX10_count_83 : decode cX10_count 83 = .ok (.bipush 16, 2) := by decide +kernel
theorem dX10_count_85 : decode cX10_count 85 = .ok (.if_icmp .gt 15, 3) := by decide +kernel
theorem dX10_count_88 : decode cX10_count 88 = .ok (.aload_n 0, 1) := by decide +kernel
theorem dX10_count_89 : decode cX10_count 89 = .ok (.getfield 65, 3) := by decide +kernel
theorem dX10_count_92 : decode cX10_count 92 = .ok (.iload_n 1, 1) := by decide +kernel
theorem dX10_count_93 : decode cX10_count 93 = .ok (.bipush 10, 2) := by decide +kernel
theorem dX10_count_95 : decode cX10_count 95 = .ok (.isub, 1) := by decide +kernel
theorem dX10_count_96 : decode cX10_count 96 = .ok (.iaload, 1) := by decide +kernel
theorem dX10_count_97 : decode cX10_count 97 = .ok (.goto 5, 3) := by decide +kernel
theorem dX10_count_100 : decode cX10_count 100 = .ok (.bipush (-9), 2) := by decide +kernel
theorem dX10_count_102 : decode cX10_count 102 = .ok (.ireturn, 1) := by decide +kernel
theorem dL_cell_0 : decode cL_cell 0 = .ok (.iload_n 1, 1) := by decide +kernel
theorem dL_cell_1 : decode cL_cell 1 = .ok (.aload_n 0, 1) := by decide +kernel
theorem dL_cell_2 : decode cL_cell 2 = .ok (.arraylength, 1) := by decide +kernel
theorem dL_cell_3 : decode cL_cell 3 = .ok (.if_icmp .ge 9, 3) := by decide +kernel
theorem dL_cell_6 : decode cL_cell 6 = .ok (.aload_n 0, 1) := by decide +kernel
theorem dL_cell_7 : decode cL_cell 7 = .ok (.iload_n 1, 1) := by decide +kernel
theorem dL_cell_8 : decode cL_cell 8 = .ok (.iaload, 1) := by decide +kernel
theorem dL_cell_9 : decode cL_cell 9 = .ok (.goto 11, 3) := by decide +kernel
theorem dL_cell_12 : decode cL_cell 12 = .ok (.sipush 7919, 3) := by decide +kernel
theorem dL_cell_15 : decode cL_cell 15 = .ok (.iload_n 1, 1) := by decide +kernel
theorem dL_cell_16 : decode cL_cell 16 = .ok (.imul, 1) := by decide +kernel
theorem dL_cell_17 : decode cL_cell 17 = .ok (.bipush 12, 2) := by decide +kernel
theorem dL_cell_19 : decode cL_cell 19 = .ok (.iadd, 1) := by decide +kernel
theorem dL_cell_20 : decode cL_cell 20 = .ok (.ireturn, 1) := by decide +kernel
theorem dL_pick_0 : decode cL_pick 0 = .ok (.iload_n 0, 1) := by decide +kernel
theorem dL_pick_1 : decode cL_pick 1 = .ok (.ldc 7, 2) := by decide +kernel
theorem dL_pick_3 : decode cL_pick 3 = .ok (.iand, 1) := by decide +kernel
theorem dL_pick_4 : decode cL_pick 4 = .ok (.iload_n 1, 1) := by decide +kernel
theorem dL_pick_5 : decode cL_pick 5 = .ok (.irem, 1) := by decide +kernel
theorem dL_pick_6 : decode cL_pick 6 = .ok (.ireturn, 1) := by decide +kernel
theorem dL_comes_0 : decode cL_comes 0 = .ok (.iload_n 3, 1) := by decide +kernel
theorem dL_comes_1 : decode cL_comes 1 = .ok (.ifCond .le 10, 3) := by decide +kernel
theorem dL_comes_4 : decode cL_comes 4 = .ok (.aload_n 0, 1) := by decide +kernel
theorem dL_comes_5 : decode cL_comes 5 = .ok (.bipush 97, 2) := by decide +kernel
theorem dL_comes_7 : decode cL_comes 7 = .ok (.invokevirtual 8, 3) := by decide +kernel
theorem dL_comes_10 : decode cL_comes 10 = .ok (.pop, 1) := by decide +kernel
theorem dL_comes_11 : decode cL_comes 11 = .ok (.iload_n 3, 1) := by decide +kernel
theorem dL_comes_12 : decode cL_comes 12 = .ok (.ifCond .le 10, 3) := by decide +kernel
theorem dL_comes_15 : decode cL_comes 15 = .ok (.aload_n 0, 1) := by decide +kernel
theorem dL_comes_16 : decode cL_comes 16 = .ok (.bipush 94, 2) := by decide +kernel
theorem dL_comes_18 : decode cL_comes 18 = .ok (.invokevirtual 8, 3) := by decide +kernel
theorem dL_comes_21 : decode cL_comes 21 = .ok (.pop, 1) := by decide +kernel
theorem dL_comes_22 : decode cL_comes 22 = .ok (.aload_n 0, 1) := by decide +kernel
theorem dL_comes_23 : decode cL_comes 23 = .ok (.bipush 48, 2) := by decide +kernel
theorem dL_comes_25 : decode cL_comes 25 = .ok (.iconst 1, 1) := by decide +kernel
theorem dL_comes_26 : decode cL_comes 26 = .ok (.iload_n 3, 1) := by decide +kernel
theorem dL_comes_27 : decode cL_comes 27 = .ok (.invokestatic 14, 3) := by decide +kernel
theorem dL_comes_30 : decode cL_comes 30 = .ok (.iadd, 1) := by decide +kernel
theorem dL_comes_31 : decode cL_comes 31 = .ok (.invokevirtual 8, 3) := by decide +kernel
theorem dL_comes_34 : decode cL_comes 34 = .ok (.pop, 1) := by decide +kernel
theorem dL_comes_35 : decode cL_comes 35 = .ok (.aload_n 0, 1) := by decide +kernel
theorem dL_comes_36 : decode cL_comes 36 = .ok (.invokevirtual 20, 3) := by decide +kernel
theorem dL_comes_39 : decode cL_comes 39 = .ok (.istore 4, 2) := by decide +kernel
theorem dL_comes_41 : decode cL_comes 41 = .ok (.iload_n 3, 1) := by decide +kernel
theorem dL_comes_42 : decode cL_comes 42 = .ok (.iconst 1, 1) := by decide +kernel
theorem dL_comes_43 : decode cL_comes 43 = .ok (.iadd, 1) := by decide +kernel
theorem dL_comes_44 : decode cL_comes 44 = .ok (.iload_n 3, 1) := by decide +kernel
theorem dL_comes_45 : decode cL_comes 45 = .ok (.iconst 2, 1) := by decide +kernel
theorem dL_comes_46 : decode cL_comes 46 = .ok (.iadd, 1) := by decide +kernel
theorem dL_comes_47 : decode cL_comes 47 = .ok (.imul, 1) := by decide +kernel
theorem dL_comes_48 : decode cL_comes 48 = .ok (.iconst 2, 1) := by decide +kernel
theorem dL_comes_49 : decode cL_comes 49 = .ok (.idiv, 1) := by decide +kernel
theorem dL_comes_50 : decode cL_comes 50 = .ok (.istore 5, 2) := by decide +kernel
theorem dL_comes_52 : decode cL_comes 52 = .ok (.iload 4, 2) := by decide +kernel
theorem dL_comes_54 : decode cL_comes 54 = .ok (.ifCond .lt 26, 3) := by decide +kernel
theorem dL_comes_57 : decode cL_comes 57 = .ok (.aload_n 0, 1) := by decide +kernel
theorem dL_comes_58 : decode cL_comes 58 = .ok (.iload 4, 2) := by decide +kernel
theorem dL_comes_60 : decode cL_comes 60 = .ok (.iconst 2, 1) := by decide +kernel
theorem dL_comes_61 : decode cL_comes 61 = .ok (.invokevirtual 24, 3) := by decide +kernel
theorem dL_comes_64 : decode cL_comes 64 = .ok (.iload_n 3, 1) := by decide +kernel
theorem dL_comes_65 : decode cL_comes 65 = .ok (.if_icmp .ne 15, 3) := by decide +kernel
theorem dL_comes_68 : decode cL_comes 68 = .ok (.aload_n 0, 1) := by decide +kernel
theorem dL_comes_69 : decode cL_comes 69 = .ok (.iload 4, 2) := by decide +kernel
theorem dL_comes_71 : decode cL_comes 71 = .ok (.iconst 3, 1) := by decide +kernel
theorem dL_comes_72 : decode cL_comes 72 = .ok (.invokevirtual 24, 3) := by decide +kernel
theorem dL_comes_75 : decode cL_comes 75 = .ok (.iload 5, 2) := by decide +kernel
theorem dL_comes_77 : decode cL_comes 77 = .ok (.if_icmp .eq 5, 3) := by decide +kernel
theorem dL_comes_80 : decode cL_comes 80 = .ok (.iconst 0, 1) := by decide +kernel
theorem dL_comes_81 : decode cL_comes 81 = .ok (.ireturn, 1) := by decide +kernel
theorem dL_comes_82 : decode cL_comes 82 = .ok (.iconst 0, 1) := by decide +kernel
theorem dL_comes_83 : decode cL_comes 83 = .ok (.istore 6, 2) := by decide +kernel
theorem dL_comes_85 : decode cL_comes 85 = .ok (.iload 6, 2) := by decide +kernel
theorem dL_comes_87 : decode cL_comes 87 = .ok (.iload 5, 2) := by decide +kernel
theorem dL_comes_89 : decode cL_comes 89 = .ok (.if_icmp .ge 94, 3) := by decide +kernel
theorem dL_comes_92 : decode cL_comes 92 = .ok (.aload_n 1, 1) := by decide +kernel
theorem dL_comes_93 : decode cL_comes 93 = .ok (.iload_n 2, 1) := by decide +kernel
theorem dL_comes_94 : decode cL_comes 94 = .ok (.iload 6, 2) := by decide +kernel
theorem dL_comes_96 : decode cL_comes 96 = .ok (.iadd, 1) := by decide +kernel
theorem dL_comes_97 : decode cL_comes 97 = .ok (.invokestatic 27, 3) := by decide +kernel
theorem dL_comes_100 : decode cL_comes 100 = .ok (.istore 7, 2) := by decide +kernel
theorem dL_comes_102 : decode cL_comes 102 = .ok (.iload 7, 2) := by decide +kernel
theorem dL_comes_104 : decode cL_comes 104 = .ok (.iconst 4, 1) := by decide +kernel
theorem dL_comes_105 : decode cL_comes 105 = .ok (.invokestatic 33, 3) := by decide +kernel
theorem dL_comes_108 : decode cL_comes 108 = .ok (.ifCond .ne 7, 3) := by decide +kernel
theorem dL_comes_111 : decode cL_comes 111 = .ok (.iconst 0, 1) := by decide +kernel
theorem dL_comes_112 : decode cL_comes 112 = .ok (.goto 38, 3) := by decide +kernel
theorem dL_comes_115 : decode cL_comes 115 = .ok (.iload 7, 2) := by decide +kernel
theorem dL_comes_117 : decode cL_comes 117 = .ok (.iconst 2, 1) := by decide +kernel
theorem dL_comes_118 : decode cL_comes 118 = .ok (.ishr, 1) := by decide +kernel
theorem dL_comes_119 : decode cL_comes 119 = .ok (.iconst 5, 1) := by decide +kernel
theorem dL_comes_120 : decode cL_comes 120 = .ok (.invokestatic 33, 3) := by decide +kernel
theorem dL_comes_123 : decode cL_comes 123 = .ok (.ifCond .ne 17, 3) := by decide +kernel
theorem dL_comes_126 : decode cL_comes 126 = .ok (.iload 7, 2) := by decide +kernel
theorem dL_comes_128 : decode cL_comes 128 = .ok (.bipush 6, 2) := by decide +kernel
theorem dL_comes_130 : decode cL_comes 130 = .ok (.ishr, 1) := by decide +kernel
theorem dL_comes_131 : decode cL_comes 131 = .ok (.bipush 20, 2) := by decide +kernel
theorem dL_comes_133 : decode cL_comes 133 = .ok (.invokestatic 33, 3) := by decide +kernel
theorem dL_comes_136 : decode cL_comes 136 = .ok (.ineg, 1) := by decide +kernel
theorem dL_comes_137 : decode cL_comes 137 = .ok (.goto 13, 3) := by decide +kernel
theorem dL_comes_140 : decode cL_comes 140 = .ok (.iload 7, 2) := by decide +kernel
theorem dL_comes_142 : decode cL_comes 142 = .ok (.bipush 6, 2) := by decide +kernel
theorem dL_comes_144 : decode cL_comes 144 = .ok (.ishr, 1) := by decide +kernel
theorem dL_comes_145 : decode cL_comes 145 = .ok (.bipush 60, 2) := by decide +kernel
theorem dL_comes_147 : decode cL_comes 147 = .ok (.invokestatic 33, 3) := by decide +kernel
theorem dL_comes_150 : decode cL_comes 150 = .ok (.istore 8, 2) := by decide +kernel
theorem dL_comes_152 : decode cL_comes 152 = .ok (.aload_n 0, 1) := by decide +kernel
theorem dL_comes_153 : decode cL_comes 153 = .ok (.iload 4, 2) := by decide +kernel
theorem dL_comes_155 : decode cL_comes 155 = .ok (.iload 6, 2) := by decide +kernel
theorem dL_comes_157 : decode cL_comes 157 = .ok (.iload 8, 2) := by decide +kernel
theorem dL_comes_159 : decode cL_comes 159 = .ok (.invokevirtual 36, 3) := by decide +kernel
theorem dL_comes_162 : decode cL_comes 162 = .ok (.iload 6, 2) := by decide +kernel
theorem dL_comes_164 : decode cL_comes 164 = .ok (.ifCond .ne 7, 3) := by decide +kernel
theorem dL_comes_167 : decode cL_comes 167 = .ok (.iconst 1, 1) := by decide +kernel
theorem dL_comes_168 : decode cL_comes 168 = .ok (.goto 4, 3) := by decide +kernel
theorem dL_comes_171 : decode cL_comes 171 = .ok (.iconst 0, 1) := by decide +kernel
theorem dL_comes_172 : decode cL_comes 172 = .ok (.if_icmp .eq 5, 3) := by decide +kernel
theorem dL_comes_175 : decode cL_comes 175 = .ok (.iconst 0, 1) := by decide +kernel
theorem dL_comes_176 : decode cL_comes 176 = .ok (.ireturn, 1) := by decide +kernel
theorem dL_comes_177 : decode cL_comes 177 = .ok (.iinc 6 1, 3) := by decide +kernel
theorem dL_comes_180 : decode cL_comes 180 = .ok (.goto (-95), 3) := by decide +kernel
theorem dL_comes_183 : decode cL_comes 183 = .ok (.aload_n 0, 1) := by decide +kernel
theorem dL_comes_184 : decode cL_comes 184 = .ok (.iload 4, 2) := by decide +kernel
theorem dL_comes_186 : decode cL_comes 186 = .ok (.aload_n 1, 1) := by decide +kernel
theorem dL_comes_187 : decode cL_comes 187 = .ok (.iload_n 2, 1) := by decide +kernel
theorem dL_comes_188 : decode cL_comes 188 = .ok (.invokestatic 27, 3) := by decide +kernel
theorem dL_comes_191 : decode cL_comes 191 = .ok (.bipush 20, 2) := by decide +kernel
theorem dL_comes_193 : decode cL_comes 193 = .ok (.ishr, 1) := by decide +kernel
theorem dL_comes_194 : decode cL_comes 194 = .ok (.iconst 3, 1) := by decide +kernel
theorem dL_comes_195 : decode cL_comes 195 = .ok (.invokestatic 33, 3) := by decide +kernel
theorem dL_comes_198 : decode cL_comes 198 = .ok (.ifCond .ne 19, 3) := by decide +kernel
theorem dL_comes_201 : decode cL_comes 201 = .ok (.aload_n 1, 1) := by decide +kernel
theorem dL_comes_202 : decode cL_comes 202 = .ok (.iload_n 2, 1) := by decide +kernel
theorem dL_comes_203 : decode cL_comes 203 = .ok (.invokestatic 27, 3) := by decide +kernel
theorem dL_comes_206 : decode cL_comes 206 = .ok (.bipush 22, 2) := by decide +kernel
theorem dL_comes_208 : decode cL_comes 208 = .ok (.ishr, 1) := by decide +kernel
theorem dL_comes_209 : decode cL_comes 209 = .ok (.bipush 6, 2) := by decide +kernel
theorem dL_comes_211 : decode cL_comes 211 = .ok (.invokestatic 33, 3) := by decide +kernel
theorem dL_comes_214 : decode cL_comes 214 = .ok (.goto 4, 3) := by decide +kernel
theorem dL_comes_217 : decode cL_comes 217 = .ok (.iconst 0, 1) := by decide +kernel
theorem dL_comes_218 : decode cL_comes 218 = .ok (.aload_n 1, 1) := by decide +kernel
theorem dL_comes_219 : decode cL_comes 219 = .ok (.iload_n 2, 1) := by decide +kernel
theorem dL_comes_220 : decode cL_comes 220 = .ok (.invokestatic 27, 3) := by decide +kernel
theorem dL_comes_223 : decode cL_comes 223 = .ok (.bipush 26, 2) := by decide +kernel
theorem dL_comes_225 : decode cL_comes 225 = .ok (.ishr, 1) := by decide +kernel
theorem dL_comes_226 : decode cL_comes 226 = .ok (.bipush 10, 2) := by decide +kernel
theorem dL_comes_228 : decode cL_comes 228 = .ok (.invokestatic 33, 3) := by decide +kernel
theorem dL_comes_231 : decode cL_comes 231 = .ok (.invokevirtual 40, 3) := by decide +kernel
theorem dL_comes_234 : decode cL_comes 234 = .ok (.ifCond .ne 7, 3) := by decide +kernel
theorem dL_comes_237 : decode cL_comes 237 = .ok (.iconst 1, 1) := by decide +kernel
theorem dL_comes_238 : decode cL_comes 238 = .ok (.goto 4, 3) := by decide +kernel
theorem dL_comes_241 : decode cL_comes 241 = .ok (.iconst 0, 1) := by decide +kernel
theorem dL_comes_242 : decode cL_comes 242 = .ok (.ireturn, 1) := by decide +kernel
theorem dL_lifts_0 : decode cL_lifts 0 = .ok (.iconst 0, 1) := by decide +kernel
theorem dL_lifts_1 : decode cL_lifts 1 = .ok (.istore_n 3, 1) := by decide +kernel
theorem dL_lifts_2 : decode cL_lifts 2 = .ok (.iload_n 3, 1) := by decide +kernel
theorem dL_lifts_3 : decode cL_lifts 3 = .ok (.iconst 2, 1) := by decide +kernel
theorem dL_lifts_4 : decode cL_lifts 4 = .ok (.if_icmp .ge 206, 3) := by decide +kernel
theorem dL_lifts_7 : decode cL_lifts 7 = .ok (.aload_n 0, 1) := by decide +kernel
theorem dL_lifts_8 : decode cL_lifts 8 = .ok (.iload_n 1, 1) := by decide +kernel
theorem dL_lifts_9 : decode cL_lifts 9 = .ok (.iload_n 2, 1) := by decide +kernel
theorem dL_lifts_10 : decode cL_lifts 10 = .ok (.iload_n 3, 1) := by decide +kernel
theorem dL_lifts_11 : decode cL_lifts 11 = .ok (.invokevirtual 43, 3) := by decide +kernel
theorem dL_lifts_14 : decode cL_lifts 14 = .ok (.istore 4, 2) := by decide +kernel
theorem dL_lifts_16 : decode cL_lifts 16 = .ok (.aload_n 0, 1) := by decide +kernel
theorem dL_lifts_17 : decode cL_lifts 17 = .ok (.iload_n 1, 1) := by decide +kernel
theorem dL_lifts_18 : decode cL_lifts 18 = .ok (.iload_n 2, 1) := by decide +kernel
theorem dL_lifts_19 : decode cL_lifts 19 = .ok (.iload_n 3, 1) := by decide +kernel
theorem dL_lifts_20 : decode cL_lifts 20 = .ok (.iconst 0, 1) := by decide +kernel
theorem dL_lifts_21 : decode cL_lifts 21 = .ok (.invokevirtual 46, 3) := by decide +kernel
theorem dL_lifts_24 : decode cL_lifts 24 = .ok (.istore 5, 2) := by decide +kernel
theorem dL_lifts_26 : decode cL_lifts 26 = .ok (.iload 4, 2) := by decide +kernel
theorem dL_lifts_28 : decode cL_lifts 28 = .ok (.ifCond .lt 68, 3) := by decide +kernel
theorem dL_lifts_31 : decode cL_lifts 31 = .ok (.iload 5, 2) := by decide +kernel
theorem dL_lifts_33 : decode cL_lifts 33 = .ok (.bipush (-9), 2) := by decide +kernel
theorem dL_lifts_35 : decode cL_lifts 35 = .ok (.if_icmp .ne 59, 3) := by decide +kernel
theorem dL_lifts_38 : decode cL_lifts 38 = .ok (.aload_n 0, 1) := by decide +kernel
theorem dL_lifts_39 : decode cL_lifts 39 = .ok (.iload_n 1, 1) := by decide +kernel
theorem dL_lifts_40 : decode cL_lifts 40 = .ok (.iload_n 2, 1) := by decide +kernel
theorem dL_lifts_41 : decode cL_lifts 41 = .ok (.iload 4, 2) := by decide +kernel
theorem dL_lifts_43 : decode cL_lifts 43 = .ok (.iload_n 3, 1) := by decide +kernel
theorem dL_lifts_44 : decode cL_lifts 44 = .ok (.invokevirtual 50, 3) := by decide +kernel
theorem dL_lifts_47 : decode cL_lifts 47 = .ok (.bipush (-9), 2) := by decide +kernel
theorem dL_lifts_49 : decode cL_lifts 49 = .ok (.if_icmp .ne 45, 3) := by decide +kernel
theorem dL_lifts_52 : decode cL_lifts 52 = .ok (.iload 4, 2) := by decide +kernel
theorem dL_lifts_54 : decode cL_lifts 54 = .ok (.bipush 12, 2) := by decide +kernel
theorem dL_lifts_56 : decode cL_lifts 56 = .ok (.if_icmp .ge 19, 3) := by decide +kernel
theorem dL_lifts_59 : decode cL_lifts 59 = .ok (.aload_n 0, 1) := by decide +kernel
theorem dL_lifts_60 : decode cL_lifts 60 = .ok (.iload_n 1, 1) := by decide +kernel
theorem dL_lifts_61 : decode cL_lifts 61 = .ok (.iload_n 2, 1) := by decide +kernel
theorem dL_lifts_62 : decode cL_lifts 62 = .ok (.iload 4, 2) := by decide +kernel
theorem dL_lifts_64 : decode cL_lifts 64 = .ok (.iconst 1, 1) := by decide +kernel
theorem dL_lifts_65 : decode cL_lifts 65 = .ok (.iadd, 1) := by decide +kernel
theorem dL_lifts_66 : decode cL_lifts 66 = .ok (.iload_n 3, 1) := by decide +kernel
theorem dL_lifts_67 : decode cL_lifts 67 = .ok (.invokevirtual 50, 3) := by decide +kernel
theorem dL_lifts_70 : decode cL_lifts 70 = .ok (.bipush (-9), 2) := by decide +kernel
theorem dL_lifts_72 : decode cL_lifts 72 = .ok (.if_icmp .ne 22, 3) := by decide +kernel
theorem dL_lifts_75 : decode cL_lifts 75 = .ok (.iload 4, 2) := by decide +kernel
theorem dL_lifts_77 : decode cL_lifts 77 = .ok (.ifCond .le 19, 3) := by decide +kernel
theorem dL_lifts_80 : decode cL_lifts 80 = .ok (.aload_n 0, 1) := by decide +kernel
theorem dL_lifts_81 : decode cL_lifts 81 = .ok (.iload_n 1, 1) := by decide +kernel
theorem dL_lifts_82 : decode cL_lifts 82 = .ok (.iload_n 2, 1) := by decide +kernel
theorem dL_lifts_83 : decode cL_lifts 83 = .ok (.iload 4, 2) := by decide +kernel
theorem dL_lifts_85 : decode cL_lifts 85 = .ok (.iconst 1, 1) := by decide +kernel
theorem dL_lifts_86 : decode cL_lifts 86 = .ok (.isub, 1) := by decide +kernel
theorem dL_lifts_87 : decode cL_lifts 87 = .ok (.iload_n 3, 1) := by decide +kernel
theorem dL_lifts_88 : decode cL_lifts 88 = .ok (.invokevirtual 50, 3) := by decide +kernel
theorem dL_lifts_91 : decode cL_lifts 91 = .ok (.ifCond .ge 5, 3) := by decide +kernel
theorem dL_lifts_94 : decode cL_lifts 94 = .ok (.iconst 0, 1) := by decide +kernel
theorem dL_lifts_95 : decode cL_lifts 95 = .ok (.ireturn, 1) := by decide +kernel
theorem dL_lifts_96 : decode cL_lifts 96 = .ok (.iload 4, 2) := by decide +kernel
theorem dL_lifts_98 : decode cL_lifts 98 = .ok (.ifCond .ge 17, 3) := by decide +kernel
theorem dL_lifts_101 : decode cL_lifts 101 = .ok (.aload_n 0, 1) := by decide +kernel
theorem dL_lifts_102 : decode cL_lifts 102 = .ok (.iload_n 1, 1) := by decide +kernel
theorem dL_lifts_103 : decode cL_lifts 103 = .ok (.iload_n 2, 1) := by decide +kernel
theorem dL_lifts_104 : decode cL_lifts 104 = .ok (.bipush 12, 2) := by decide +kernel
theorem dL_lifts_106 : decode cL_lifts 106 = .ok (.iload_n 3, 1) := by decide +kernel
theorem dL_lifts_107 : decode cL_lifts 107 = .ok (.invokevirtual 50, 3) := by decide +kernel
theorem dL_lifts_110 : decode cL_lifts 110 = .ok (.ifCond .ge 5, 3) := by decide +kernel
theorem dL_lifts_113 : decode cL_lifts 113 = .ok (.iconst 0, 1) := by decide +kernel
theorem dL_lifts_114 : decode cL_lifts 114 = .ok (.ireturn, 1) := by decide +kernel
theorem dL_lifts_115 : decode cL_lifts 115 = .ok (.iload 5, 2) := by decide +kernel
theorem dL_lifts_117 : decode cL_lifts 117 = .ok (.ifCond .le 40, 3) := by decide +kernel
theorem dL_lifts_120 : decode cL_lifts 120 = .ok (.iload_n 3, 1) := by decide +kernel
theorem dL_lifts_121 : decode cL_lifts 121 = .ok (.ifCond .ne 20, 3) := by decide +kernel
theorem dL_lifts_124 : decode cL_lifts 124 = .ok (.aload_n 0, 1) := by decide +kernel
theorem dL_lifts_125 : decode cL_lifts 125 = .ok (.iload_n 1, 1) := by decide +kernel
theorem dL_lifts_126 : decode cL_lifts 126 = .ok (.iload_n 2, 1) := by decide +kernel
theorem dL_lifts_127 : decode cL_lifts 127 = .ok (.iload 5, 2) := by decide +kernel
theorem dL_lifts_129 : decode cL_lifts 129 = .ok (.iconst 0, 1) := by decide +kernel
theorem dL_lifts_130 : decode cL_lifts 130 = .ok (.invokevirtual 53, 3) := by decide +kernel
theorem dL_lifts_133 : decode cL_lifts 133 = .ok (.lconst 0, 1) := by decide +kernel
theorem dL_lifts_134 : decode cL_lifts 134 = .ok (.lcmp, 1) := by decide +kernel
theorem dL_lifts_135 : decode cL_lifts 135 = .ok (.ifCond .lt 22, 3) := by decide +kernel
theorem dL_lifts_138 : decode cL_lifts 138 = .ok (.goto 17, 3) := by decide +kernel
theorem dL_lifts_141 : decode cL_lifts 141 = .ok (.aload_n 0, 1) := by decide +kernel
theorem dL_lifts_142 : decode cL_lifts 142 = .ok (.iload_n 1, 1) := by decide +kernel
theorem dL_lifts_143 : decode cL_lifts 143 = .ok (.iload_n 2, 1) := by decide +kernel
theorem dL_lifts_144 : decode cL_lifts 144 = .ok (.iload 5, 2) := by decide +kernel
theorem dL_lifts_146 : decode cL_lifts 146 = .ok (.iconst 0, 1) := by decide +kernel
theorem dL_lifts_147 : decode cL_lifts 147 = .ok (.invokevirtual 53, 3) := by decide +kernel
theorem dL_lifts_150 : decode cL_lifts 150 = .ok (.lconst 0, 1) := by decide +kernel
theorem dL_lifts_151 : decode cL_lifts 151 = .ok (.lcmp, 1) := by decide +kernel
theorem dL_lifts_152 : decode cL_lifts 152 = .ok (.ifCond .le 5, 3) := by decide +kernel
theorem dL_lifts_155 : decode cL_lifts 155 = .ok (.iconst 0, 1) := by decide +kernel
theorem dL_lifts_156 : decode cL_lifts 156 = .ok (.ireturn, 1) := by decide +kernel
theorem dL_lifts_157 : decode cL_lifts 157 = .ok (.iload 5, 2) := by decide +kernel
theorem dL_lifts_159 : decode cL_lifts 159 = .ok (.iconst 1, 1) := by decide +kernel
theorem dL_lifts_160 : decode cL_lifts 160 = .ok (.if_icmp .le 44, 3) := by decide +kernel
theorem dL_lifts_163 : decode cL_lifts 163 = .ok (.iload_n 3, 1) := by decide +kernel
theorem dL_lifts_164 : decode cL_lifts 164 = .ok (.ifCond .ne 22, 3) := by decide +kernel
theorem dL_lifts_167 : decode cL_lifts 167 = .ok (.aload_n 0, 1) := by decide +kernel
theorem dL_lifts_168 : decode cL_lifts 168 = .ok (.iload_n 1, 1) := by decide +kernel
theorem dL_lifts_169 : decode cL_lifts 169 = .ok (.iload_n 2, 1) := by decide +kernel
theorem dL_lifts_170 : decode cL_lifts 170 = .ok (.iload 5, 2) := by decide +kernel
theorem dL_lifts_172 : decode cL_lifts 172 = .ok (.iconst 1, 1) := by decide +kernel
theorem dL_lifts_173 : decode cL_lifts 173 = .ok (.isub, 1) := by decide +kernel
theorem dL_lifts_174 : decode cL_lifts 174 = .ok (.iconst 0, 1) := by decide +kernel
theorem dL_lifts_175 : decode cL_lifts 175 = .ok (.invokevirtual 53, 3) := by decide +kernel
theorem dL_lifts_178 : decode cL_lifts 178 = .ok (.lconst 0, 1) := by decide +kernel
theorem dL_lifts_179 : decode cL_lifts 179 = .ok (.lcmp, 1) := by decide +kernel
theorem dL_lifts_180 : decode cL_lifts 180 = .ok (.ifCond .ge 24, 3) := by decide +kernel
theorem dL_lifts_183 : decode cL_lifts 183 = .ok (.goto 19, 3) := by decide +kernel
theorem dL_lifts_186 : decode cL_lifts 186 = .ok (.aload_n 0, 1) := by decide +kernel
theorem dL_lifts_187 : decode cL_lifts 187 = .ok (.iload_n 1, 1) := by decide +kernel
theorem dL_lifts_188 : decode cL_lifts 188 = .ok (.iload_n 2, 1) := by decide +kernel
theorem dL_lifts_189 : decode cL_lifts 189 = .ok (.iload 5, 2) := by decide +kernel
theorem dL_lifts_191 : decode cL_lifts 191 = .ok (.iconst 1, 1) := by decide +kernel
theorem dL_lifts_192 : decode cL_lifts 192 = .ok (.isub, 1) := by decide +kernel
theorem dL_lifts_193 : decode cL_lifts 193 = .ok (.iconst 0, 1) := by decide +kernel
theorem dL_lifts_194 : decode cL_lifts 194 = .ok (.invokevirtual 53, 3) := by decide +kernel
theorem dL_lifts_197 : decode cL_lifts 197 = .ok (.lconst 0, 1) := by decide +kernel
theorem dL_lifts_198 : decode cL_lifts 198 = .ok (.lcmp, 1) := by decide +kernel
theorem dL_lifts_199 : decode cL_lifts 199 = .ok (.ifCond .gt 5, 3) := by decide +kernel
theorem dL_lifts_202 : decode cL_lifts 202 = .ok (.iconst 0, 1) := by decide +kernel
theorem dL_lifts_203 : decode cL_lifts 203 = .ok (.ireturn, 1) := by decide +kernel
theorem dL_lifts_204 : decode cL_lifts 204 = .ok (.iinc 3 1, 3) := by decide +kernel
theorem dL_lifts_207 : decode cL_lifts 207 = .ok (.goto (-205), 3) := by decide +kernel
theorem dL_lifts_210 : decode cL_lifts 210 = .ok (.aload_n 0, 1) := by decide +kernel
theorem dL_lifts_211 : decode cL_lifts 211 = .ok (.iload_n 1, 1) := by decide +kernel
theorem dL_lifts_212 : decode cL_lifts 212 = .ok (.iload_n 2, 1) := by decide +kernel
theorem dL_lifts_213 : decode cL_lifts 213 = .ok (.iconst 1, 1) := by decide +kernel
theorem dL_lifts_214 : decode cL_lifts 214 = .ok (.invokevirtual 43, 3) := by decide +kernel
theorem dL_lifts_217 : decode cL_lifts 217 = .ok (.ifCond .lt 32, 3) := by decide +kernel
theorem dL_lifts_220 : decode cL_lifts 220 = .ok (.aload_n 0, 1) := by decide +kernel
theorem dL_lifts_221 : decode cL_lifts 221 = .ok (.iload_n 1, 1) := by decide +kernel
theorem dL_lifts_222 : decode cL_lifts 222 = .ok (.iload_n 2, 1) := by decide +kernel
theorem dL_lifts_223 : decode cL_lifts 223 = .ok (.iconst 0, 1) := by decide +kernel
theorem dL_lifts_224 : decode cL_lifts 224 = .ok (.invokevirtual 43, 3) := by decide +kernel
theorem dL_lifts_227 : decode cL_lifts 227 = .ok (.ifCond .lt 20, 3) := by decide +kernel
theorem dL_lifts_230 : decode cL_lifts 230 = .ok (.aload_n 0, 1) := by decide +kernel
theorem dL_lifts_231 : decode cL_lifts 231 = .ok (.iload_n 1, 1) := by decide +kernel
theorem dL_lifts_232 : decode cL_lifts 232 = .ok (.iload_n 2, 1) := by decide +kernel
theorem dL_lifts_233 : decode cL_lifts 233 = .ok (.iconst 0, 1) := by decide +kernel
theorem dL_lifts_234 : decode cL_lifts 234 = .ok (.invokevirtual 43, 3) := by decide +kernel
theorem dL_lifts_237 : decode cL_lifts 237 = .ok (.aload_n 0, 1) := by decide +kernel
theorem dL_lifts_238 : decode cL_lifts 238 = .ok (.iload_n 1, 1) := by decide +kernel
theorem dL_lifts_239 : decode cL_lifts 239 = .ok (.iload_n 2, 1) := by decide +kernel
theorem dL_lifts_240 : decode cL_lifts 240 = .ok (.iconst 1, 1) := by decide +kernel
theorem dL_lifts_241 : decode cL_lifts 241 = .ok (.invokevirtual 43, 3) := by decide +kernel
theorem dL_lifts_244 : decode cL_lifts 244 = .ok (.if_icmp .le 5, 3) := by decide +kernel
theorem dL_lifts_247 : decode cL_lifts 247 = .ok (.iconst 0, 1) := by decide +kernel
theorem dL_lifts_248 : decode cL_lifts 248 = .ok (.ireturn, 1) := by decide +kernel
theorem dL_lifts_249 : decode cL_lifts 249 = .ok (.aload_n 0, 1) := by decide +kernel
theorem dL_lifts_250 : decode cL_lifts 250 = .ok (.iload_n 1, 1) := by decide +kernel
theorem dL_lifts_251 : decode cL_lifts 251 = .ok (.iload_n 2, 1) := by decide +kernel
theorem dL_lifts_252 : decode cL_lifts 252 = .ok (.invokevirtual 57, 3) := by decide +kernel
theorem dL_lifts_255 : decode cL_lifts 255 = .ok (.istore_n 3, 1) := by decide +kernel
theorem dL_lifts_256 : decode cL_lifts 256 = .ok (.iload_n 3, 1) := by decide +kernel
theorem dL_lifts_257 : decode cL_lifts 257 = .ok (.aload_n 0, 1) := by decide +kernel
theorem dL_lifts_258 : decode cL_lifts 258 = .ok (.iload_n 1, 1) := by decide +kernel
theorem dL_lifts_259 : decode cL_lifts 259 = .ok (.iload_n 2, 1) := by decide +kernel
theorem dL_lifts_260 : decode cL_lifts 260 = .ok (.iconst 1, 1) := by decide +kernel
theorem dL_lifts_261 : decode cL_lifts 261 = .ok (.invokevirtual 43, 3) := by decide +kernel
theorem dL_lifts_264 : decode cL_lifts 264 = .ok (.ifCond .lt 7, 3) := by decide +kernel
theorem dL_lifts_267 : decode cL_lifts 267 = .ok (.iconst 0, 1) := by decide +kernel
theorem dL_lifts_268 : decode cL_lifts 268 = .ok (.goto 33, 3) := by decide +kernel
theorem dL_lifts_271 : decode cL_lifts 271 = .ok (.aload_n 0, 1) := by decide +kernel
theorem dL_lifts_272 : decode cL_lifts 272 = .ok (.iload_n 1, 1) := by decide +kernel
theorem dL_lifts_273 : decode cL_lifts 273 = .ok (.iload_n 2, 1) := by decide +kernel
theorem dL_lifts_274 : decode cL_lifts 274 = .ok (.iconst 0, 1) := by decide +kernel
theorem dL_lifts_275 : decode cL_lifts 275 = .ok (.invokevirtual 43, 3) := by decide +kernel
theorem dL_lifts_278 : decode cL_lifts 278 = .ok (.ifCond .lt 7, 3) := by decide +kernel
theorem dL_lifts_281 : decode cL_lifts 281 = .ok (.iconst 1, 1) := by decide +kernel
theorem dL_lifts_282 : decode cL_lifts 282 = .ok (.goto 19, 3) := by decide +kernel
theorem dL_lifts_285 : decode cL_lifts 285 = .ok (.aload_n 0, 1) := by decide +kernel
theorem dL_lifts_286 : decode cL_lifts 286 = .ok (.iload_n 1, 1) := by decide +kernel
theorem dL_lifts_287 : decode cL_lifts 287 = .ok (.iload_n 2, 1) := by decide +kernel
theorem dL_lifts_288 : decode cL_lifts 288 = .ok (.iconst 0, 1) := by decide +kernel
theorem dL_lifts_289 : decode cL_lifts 289 = .ok (.iconst 0, 1) := by decide +kernel
theorem dL_lifts_290 : decode cL_lifts 290 = .ok (.invokevirtual 46, 3) := by decide +kernel
theorem dL_lifts_293 : decode cL_lifts 293 = .ok (.ifCond .le 7, 3) := by decide +kernel
theorem dL_lifts_296 : decode cL_lifts 296 = .ok (.iconst 2, 1) := by decide +kernel
theorem dL_lifts_297 : decode cL_lifts 297 = .ok (.goto 4, 3) := by decide +kernel
theorem dL_lifts_300 : decode cL_lifts 300 = .ok (.iconst 3, 1) := by decide +kernel
theorem dL_lifts_301 : decode cL_lifts 301 = .ok (.if_icmp .ne 7, 3) := by decide +kernel
theorem dL_lifts_304 : decode cL_lifts 304 = .ok (.iconst 1, 1) := by decide +kernel
theorem dL_lifts_305 : decode cL_lifts 305 = .ok (.goto 4, 3) := by decide +kernel
theorem dL_lifts_308 : decode cL_lifts 308 = .ok (.iconst 0, 1) := by decide +kernel
theorem dL_lifts_309 : decode cL_lifts 309 = .ok (.ireturn, 1) := by decide +kernel
theorem dL_reads_0 : decode cL_reads 0 = .ok (.aload_n 0, 1) := by decide +kernel
theorem dL_reads_1 : decode cL_reads 1 = .ok (.iload_n 1, 1) := by decide +kernel
theorem dL_reads_2 : decode cL_reads 2 = .ok (.iconst (-1), 1) := by decide +kernel
theorem dL_reads_3 : decode cL_reads 3 = .ok (.invokevirtual 60, 3) := by decide +kernel
theorem dL_reads_6 : decode cL_reads 6 = .ok (.istore_n 3, 1) := by decide +kernel
theorem dL_reads_7 : decode cL_reads 7 = .ok (.iload_n 3, 1) := by decide +kernel
theorem dL_reads_8 : decode cL_reads 8 = .ok (.bipush 72, 2) := by decide +kernel
theorem dL_reads_10 : decode cL_reads 10 = .ok (.if_icmp .gt 18, 3) := by decide +kernel
theorem dL_reads_13 : decode cL_reads 13 = .ok (.aload_n 0, 1) := by decide +kernel
theorem dL_reads_14 : decode cL_reads 14 = .ok (.iload_n 1, 1) := by decide +kernel
theorem dL_reads_15 : decode cL_reads 15 = .ok (.iconst 4, 1) := by decide +kernel
theorem dL_reads_16 : decode cL_reads 16 = .ok (.invokevirtual 24, 3) := by decide +kernel
theorem dL_reads_19 : decode cL_reads 19 = .ok (.aload_n 0, 1) := by decide +kernel
theorem dL_reads_20 : decode cL_reads 20 = .ok (.iload_n 1, 1) := by decide +kernel
theorem dL_reads_21 : decode cL_reads 21 = .ok (.iconst 3, 1) := by decide +kernel
theorem dL_reads_22 : decode cL_reads 22 = .ok (.invokevirtual 24, 3) := by decide +kernel
theorem dL_reads_25 : decode cL_reads 25 = .ok (.if_icmp .ne 5, 3) := by decide +kernel
theorem dL_reads_28 : decode cL_reads 28 = .ok (.iconst 1, 1) := by decide +kernel
theorem dL_reads_29 : decode cL_reads 29 = .ok (.ireturn, 1) := by decide +kernel
theorem dL_reads_30 : decode cL_reads 30 = .ok (.iconst 0, 1) := by decide +kernel
theorem dL_reads_31 : decode cL_reads 31 = .ok (.istore 4, 2) := by decide +kernel
theorem dL_reads_33 : decode cL_reads 33 = .ok (.iload 4, 2) := by decide +kernel
theorem dL_reads_35 : decode cL_reads 35 = .ok (.iload_n 3, 1) := by decide +kernel
theorem dL_reads_36 : decode cL_reads 36 = .ok (.if_icmp .ge 29, 3) := by decide +kernel
theorem dL_reads_39 : decode cL_reads 39 = .ok (.aload_n 0, 1) := by decide +kernel
theorem dL_reads_40 : decode cL_reads 40 = .ok (.aload_n 0, 1) := by decide +kernel
theorem dL_reads_41 : decode cL_reads 41 = .ok (.iload_n 1, 1) := by decide +kernel
theorem dL_reads_42 : decode cL_reads 42 = .ok (.iload 4, 2) := by decide +kernel
theorem dL_reads_44 : decode cL_reads 44 = .ok (.invokevirtual 60, 3) := by decide +kernel
theorem dL_reads_47 : decode cL_reads 47 = .ok (.invokevirtual 8, 3) := by decide +kernel
theorem dL_reads_50 : decode cL_reads 50 = .ok (.iload 4, 2) := by decide +kernel
theorem dL_reads_52 : decode cL_reads 52 = .ok (.iconst 1, 1) := by decide +kernel
theorem dL_reads_53 : decode cL_reads 53 = .ok (.iadd, 1) := by decide +kernel
theorem dL_reads_54 : decode cL_reads 54 = .ok (.if_icmp .eq 5, 3) := by decide +kernel
theorem dL_reads_57 : decode cL_reads 57 = .ok (.iconst 0, 1) := by decide +kernel
theorem dL_reads_58 : decode cL_reads 58 = .ok (.ireturn, 1) := by decide +kernel
theorem dL_reads_59 : decode cL_reads 59 = .ok (.iinc 4 1, 3) := by decide +kernel
theorem dL_reads_62 : decode cL_reads 62 = .ok (.goto (-29), 3) := by decide +kernel
theorem dL_reads_65 : decode cL_reads 65 = .ok (.aload_n 0, 1) := by decide +kernel
theorem dL_reads_66 : decode cL_reads 66 = .ok (.invokevirtual 20, 3) := by decide +kernel
theorem dL_reads_69 : decode cL_reads 69 = .ok (.iload_n 2, 1) := by decide +kernel
theorem dL_reads_70 : decode cL_reads 70 = .ok (.if_icmp .ne 18, 3) := by decide +kernel
theorem dL_reads_73 : decode cL_reads 73 = .ok (.aload_n 0, 1) := by decide +kernel
theorem dL_reads_74 : decode cL_reads 74 = .ok (.iload_n 2, 1) := by decide +kernel
theorem dL_reads_75 : decode cL_reads 75 = .ok (.iconst 2, 1) := by decide +kernel
theorem dL_reads_76 : decode cL_reads 76 = .ok (.invokevirtual 24, 3) := by decide +kernel
theorem dL_reads_79 : decode cL_reads 79 = .ok (.aload_n 0, 1) := by decide +kernel
theorem dL_reads_80 : decode cL_reads 80 = .ok (.iload_n 1, 1) := by decide +kernel
theorem dL_reads_81 : decode cL_reads 81 = .ok (.iconst 2, 1) := by decide +kernel
theorem dL_reads_82 : decode cL_reads 82 = .ok (.invokevirtual 24, 3) := by decide +kernel
theorem dL_reads_85 : decode cL_reads 85 = .ok (.if_icmp .eq 5, 3) := by decide +kernel
theorem dL_reads_88 : decode cL_reads 88 = .ok (.iconst 0, 1) := by decide +kernel
theorem dL_reads_89 : decode cL_reads 89 = .ok (.ireturn, 1) := by decide +kernel
theorem dL_reads_90 : decode cL_reads 90 = .ok (.iconst 0, 1) := by decide +kernel
theorem dL_reads_91 : decode cL_reads 91 = .ok (.istore 4, 2) := by decide +kernel
theorem dL_reads_93 : decode cL_reads 93 = .ok (.iload 4, 2) := by decide +kernel
theorem dL_reads_95 : decode cL_reads 95 = .ok (.aload_n 0, 1) := by decide +kernel
theorem dL_reads_96 : decode cL_reads 96 = .ok (.iload_n 1, 1) := by decide +kernel
theorem dL_reads_97 : decode cL_reads 97 = .ok (.iconst 3, 1) := by decide +kernel
theorem dL_reads_98 : decode cL_reads 98 = .ok (.invokevirtual 24, 3) := by decide +kernel
theorem dL_reads_101 : decode cL_reads 101 = .ok (.if_icmp .ge 28, 3) := by decide +kernel
theorem dL_reads_104 : decode cL_reads 104 = .ok (.aload_n 0, 1) := by decide +kernel
theorem dL_reads_105 : decode cL_reads 105 = .ok (.iload_n 2, 1) := by decide +kernel
theorem dL_reads_106 : decode cL_reads 106 = .ok (.iload 4, 2) := by decide +kernel
theorem dL_reads_108 : decode cL_reads 108 = .ok (.invokevirtual 63, 3) := by decide +kernel
theorem dL_reads_111 : decode cL_reads 111 = .ok (.aload_n 0, 1) := by decide +kernel
theorem dL_reads_112 : decode cL_reads 112 = .ok (.iload_n 1, 1) := by decide +kernel
theorem dL_reads_113 : decode cL_reads 113 = .ok (.iload 4, 2) := by decide +kernel
theorem dL_reads_115 : decode cL_reads 115 = .ok (.invokevirtual 63, 3) := by decide +kernel
theorem dL_reads_118 : decode cL_reads 118 = .ok (.if_icmp .eq 5, 3) := by decide +kernel
theorem dL_reads_121 : decode cL_reads 121 = .ok (.iconst 0, 1) := by decide +kernel
theorem dL_reads_122 : decode cL_reads 122 = .ok (.ireturn, 1) := by decide +kernel
theorem dL_reads_123 : decode cL_reads 123 = .ok (.iinc 4 1, 3) := by decide +kernel
theorem dL_reads_126 : decode cL_reads 126 = .ok (.goto (-33), 3) := by decide +kernel
theorem dL_reads_129 : decode cL_reads 129 = .ok (.aload_n 0, 1) := by decide +kernel
theorem dL_reads_130 : decode cL_reads 130 = .ok (.iload_n 2, 1) := by decide +kernel
theorem dL_reads_131 : decode cL_reads 131 = .ok (.iconst (-1), 1) := by decide +kernel
theorem dL_reads_132 : decode cL_reads 132 = .ok (.invokevirtual 60, 3) := by decide +kernel
theorem dL_reads_135 : decode cL_reads 135 = .ok (.iload_n 3, 1) := by decide +kernel
theorem dL_reads_136 : decode cL_reads 136 = .ok (.if_icmp .ne 15, 3) := by decide +kernel
theorem dL_reads_139 : decode cL_reads 139 = .ok (.aload_n 0, 1) := by decide +kernel
theorem dL_reads_140 : decode cL_reads 140 = .ok (.invokevirtual 66, 3) := by decide +kernel
theorem dL_reads_143 : decode cL_reads 143 = .ok (.iload_n 2, 1) := by decide +kernel
theorem dL_reads_144 : decode cL_reads 144 = .ok (.if_icmp .ne 7, 3) := by decide +kernel
theorem dL_reads_147 : decode cL_reads 147 = .ok (.iconst 1, 1) := by decide +kernel
theorem dL_reads_148 : decode cL_reads 148 = .ok (.goto 4, 3) := by decide +kernel
theorem dL_reads_151 : decode cL_reads 151 = .ok (.iconst 0, 1) := by decide +kernel
theorem dL_reads_152 : decode cL_reads 152 = .ok (.ireturn, 1) := by decide +kernel
theorem dL_walls_0 : decode cL_walls 0 = .ok (.iconst 1, 1) := by decide +kernel
theorem dL_walls_1 : decode cL_walls 1 = .ok (.aload_n 1, 1) := by decide +kernel
theorem dL_walls_2 : decode cL_walls 2 = .ok (.bipush 50, 2) := by decide +kernel
theorem dL_walls_4 : decode cL_walls 4 = .ok (.invokestatic 27, 3) := by decide +kernel
theorem dL_walls_7 : decode cL_walls 7 = .ok (.bipush 9, 2) := by decide +kernel
theorem dL_walls_9 : decode cL_walls 9 = .ok (.invokestatic 33, 3) := by decide +kernel
theorem dL_walls_12 : decode cL_walls 12 = .ok (.iadd, 1) := by decide +kernel
theorem dL_walls_13 : decode cL_walls 13 = .ok (.istore_n 2, 1) := by decide +kernel
theorem dL_walls_14 : decode cL_walls 14 = .ok (.lconst 0, 1) := by decide +kernel
theorem dL_walls_15 : decode cL_walls 15 = .ok (.lstore_n 3, 1) := by decide +kernel
theorem dL_walls_16 : decode cL_walls 16 = .ok (.aload_n 0, 1) := by decide +kernel
theorem dL_walls_17 : decode cL_walls 17 = .ok (.iconst 0, 1) := by decide +kernel
theorem dL_walls_18 : decode cL_walls 18 = .ok (.iload_n 2, 1) := by decide +kernel
theorem dL_walls_19 : decode cL_walls 19 = .ok (.invokevirtual 69, 3) := by decide +kernel
theorem dL_walls_22 : decode cL_walls 22 = .ok (.iconst 1, 1) := by decide +kernel
theorem dL_walls_23 : decode cL_walls 23 = .ok (.if_icmp .eq 5, 3) := by decide +kernel
theorem dL_walls_26 : decode cL_walls 26 = .ok (.iconst 0, 1) := by decide +kernel
theorem dL_walls_27 : decode cL_walls 27 = .ok (.ireturn, 1) := by decide +kernel
theorem dL_walls_28 : decode cL_walls 28 = .ok (.iconst 0, 1) := by decide +kernel
theorem dL_walls_29 : decode cL_walls 29 = .ok (.istore 5, 2) := by decide +kernel
theorem dL_walls_31 : decode cL_walls 31 = .ok (.iload 5, 2) := by decide +kernel
theorem dL_walls_33 : decode cL_walls 33 = .ok (.iload_n 2, 1) := by decide +kernel
theorem dL_walls_34 : decode cL_walls 34 = .ok (.if_icmp .ge 49, 3) := by decide +kernel
theorem dL_walls_37 : decode cL_walls 37 = .ok (.aload_n 1, 1) := by decide +kernel
theorem dL_walls_38 : decode cL_walls 38 = .ok (.bipush 51, 2) := by decide +kernel
theorem dL_walls_40 : decode cL_walls 40 = .ok (.iload 5, 2) := by decide +kernel
theorem dL_walls_42 : decode cL_walls 42 = .ok (.iadd, 1) := by decide +kernel
theorem dL_walls_43 : decode cL_walls 43 = .ok (.invokestatic 27, 3) := by decide +kernel
theorem dL_walls_46 : decode cL_walls 46 = .ok (.bipush 60, 2) := by decide +kernel
theorem dL_walls_48 : decode cL_walls 48 = .ok (.invokestatic 33, 3) := by decide +kernel
theorem dL_walls_51 : decode cL_walls 51 = .ok (.bipush 15, 2) := by decide +kernel
theorem dL_walls_53 : decode cL_walls 53 = .ok (.isub, 1) := by decide +kernel
theorem dL_walls_54 : decode cL_walls 54 = .ok (.istore 6, 2) := by decide +kernel
theorem dL_walls_56 : decode cL_walls 56 = .ok (.aload_n 0, 1) := by decide +kernel
theorem dL_walls_57 : decode cL_walls 57 = .ok (.iconst 0, 1) := by decide +kernel
theorem dL_walls_58 : decode cL_walls 58 = .ok (.iload 5, 2) := by decide +kernel
theorem dL_walls_60 : decode cL_walls 60 = .ok (.iload 6, 2) := by decide +kernel
theorem dL_walls_62 : decode cL_walls 62 = .ok (.invokevirtual 72, 3) := by decide +kernel
theorem dL_walls_65 : decode cL_walls 65 = .ok (.iconst 1, 1) := by decide +kernel
theorem dL_walls_66 : decode cL_walls 66 = .ok (.if_icmp .eq 5, 3) := by decide +kernel
theorem dL_walls_69 : decode cL_walls 69 = .ok (.iconst 0, 1) := by decide +kernel
theorem dL_walls_70 : decode cL_walls 70 = .ok (.ireturn, 1) := by decide +kernel
theorem dL_walls_71 : decode cL_walls 71 = .ok (.lload_n 3, 1) := by decide +kernel
theorem dL_walls_72 : decode cL_walls 72 = .ok (.iload 6, 2) := by decide +kernel
theorem dL_walls_74 : decode cL_walls 74 = .ok (.i2l, 1) := by decide +kernel
theorem dL_walls_75 : decode cL_walls 75 = .ok (.ladd, 1) := by decide +kernel
theorem dL_walls_76 : decode cL_walls 76 = .ok (.lstore_n 3, 1) := by decide +kernel
theorem dL_walls_77 : decode cL_walls 77 = .ok (.iinc 5 1, 3) := by decide +kernel
theorem dL_walls_80 : decode cL_walls 80 = .ok (.goto (-49), 3) := by decide +kernel
theorem dL_walls_83 : decode cL_walls 83 = .ok (.iload_n 2, 1) := by decide +kernel
theorem dL_walls_84 : decode cL_walls 84 = .ok (.iconst 1, 1) := by decide +kernel
theorem dL_walls_85 : decode cL_walls 85 = .ok (.isub, 1) := by decide +kernel
theorem dL_walls_86 : decode cL_walls 86 = .ok (.istore 5, 2) := by decide +kernel
theorem dL_walls_88 : decode cL_walls 88 = .ok (.iload 5, 2) := by decide +kernel
theorem dL_walls_90 : decode cL_walls 90 = .ok (.bipush 17, 2) := by decide +kernel
theorem dL_walls_92 : decode cL_walls 92 = .ok (.if_icmp .ge 107, 3) := by decide +kernel
theorem dL_walls_95 : decode cL_walls 95 = .ok (.aload_n 0, 1) := by decide +kernel
theorem dL_walls_96 : decode cL_walls 96 = .ok (.iconst 0, 1) := by decide +kernel
theorem dL_walls_97 : decode cL_walls 97 = .ok (.iload 5, 2) := by decide +kernel
theorem dL_walls_99 : decode cL_walls 99 = .ok (.iconst 0, 1) := by decide +kernel
theorem dL_walls_100 : decode cL_walls 100 = .ok (.invokevirtual 75, 3) := by decide +kernel
theorem dL_walls_103 : decode cL_walls 103 = .ok (.aload_n 0, 1) := by decide +kernel
theorem dL_walls_104 : decode cL_walls 104 = .ok (.iconst 0, 1) := by decide +kernel
theorem dL_walls_105 : decode cL_walls 105 = .ok (.iconst 0, 1) := by decide +kernel
theorem dL_walls_106 : decode cL_walls 106 = .ok (.invokevirtual 79, 3) := by decide +kernel
theorem dL_walls_109 : decode cL_walls 109 = .ok (.lcmp, 1) := by decide +kernel
theorem dL_walls_110 : decode cL_walls 110 = .ok (.ifCond .ne 17, 3) := by decide +kernel
theorem dL_walls_113 : decode cL_walls 113 = .ok (.aload_n 0, 1) := by decide +kernel
theorem dL_walls_114 : decode cL_walls 114 = .ok (.iconst 0, 1) := by decide +kernel
theorem dL_walls_115 : decode cL_walls 115 = .ok (.iload 5, 2) := by decide +kernel
theorem dL_walls_117 : decode cL_walls 117 = .ok (.iload 5, 2) := by decide +kernel
theorem dL_walls_119 : decode cL_walls 119 = .ok (.invokevirtual 75, 3) := by decide +kernel
theorem dL_walls_122 : decode cL_walls 122 = .ok (.lload_n 3, 1) := by decide +kernel
theorem dL_walls_123 : decode cL_walls 123 = .ok (.lcmp, 1) := by decide +kernel
theorem dL_walls_124 : decode cL_walls 124 = .ok (.ifCond .eq 5, 3) := by decide +kernel
theorem dL_walls_127 : decode cL_walls 127 = .ok (.iconst 0, 1) := by decide +kernel
theorem dL_walls_128 : decode cL_walls 128 = .ok (.ireturn, 1) := by decide +kernel
theorem dL_walls_129 : decode cL_walls 129 = .ok (.iload 5, 2) := by decide +kernel
theorem dL_walls_131 : decode cL_walls 131 = .ok (.bipush 16, 2) := by decide +kernel
theorem dL_walls_133 : decode cL_walls 133 = .ok (.if_icmp .ne 6, 3) := by decide +kernel
theorem dL_walls_136 : decode cL_walls 136 = .ok (.goto 63, 3) := by decide +kernel
theorem dL_walls_139 : decode cL_walls 139 = .ok (.iconst 1, 1) := by decide +kernel
theorem dL_walls_140 : decode cL_walls 140 = .ok (.istore 6, 2) := by decide +kernel
theorem dL_walls_142 : decode cL_walls 142 = .ok (.iload 6, 2) := by decide +kernel
theorem dL_walls_144 : decode cL_walls 144 = .ok (.iload 5, 2) := by decide +kernel
theorem dL_walls_146 : decode cL_walls 146 = .ok (.if_icmp .gt 47, 3) := by decide +kernel
theorem dL_walls_149 : decode cL_walls 149 = .ok (.aload_n 0, 1) := by decide +kernel
theorem dL_walls_150 : decode cL_walls 150 = .ok (.iconst 0, 1) := by decide +kernel
theorem dL_walls_151 : decode cL_walls 151 = .ok (.iload 5, 2) := by decide +kernel
theorem dL_walls_153 : decode cL_walls 153 = .ok (.iconst 1, 1) := by decide +kernel
theorem dL_walls_154 : decode cL_walls 154 = .ok (.iadd, 1) := by decide +kernel
theorem dL_walls_155 : decode cL_walls 155 = .ok (.iload 6, 2) := by decide +kernel
theorem dL_walls_157 : decode cL_walls 157 = .ok (.invokevirtual 75, 3) := by decide +kernel
theorem dL_walls_160 : decode cL_walls 160 = .ok (.aload_n 0, 1) := by decide +kernel
theorem dL_walls_161 : decode cL_walls 161 = .ok (.iconst 0, 1) := by decide +kernel
theorem dL_walls_162 : decode cL_walls 162 = .ok (.iload 5, 2) := by decide +kernel
theorem dL_walls_164 : decode cL_walls 164 = .ok (.iload 6, 2) := by decide +kernel
theorem dL_walls_166 : decode cL_walls 166 = .ok (.iconst 1, 1) := by decide +kernel
theorem dL_walls_167 : decode cL_walls 167 = .ok (.isub, 1) := by decide +kernel
theorem dL_walls_168 : decode cL_walls 168 = .ok (.invokevirtual 75, 3) := by decide +kernel
theorem dL_walls_171 : decode cL_walls 171 = .ok (.aload_n 0, 1) := by decide +kernel
theorem dL_walls_172 : decode cL_walls 172 = .ok (.iconst 0, 1) := by decide +kernel
theorem dL_walls_173 : decode cL_walls 173 = .ok (.iload 5, 2) := by decide +kernel
theorem dL_walls_175 : decode cL_walls 175 = .ok (.iload 6, 2) := by decide +kernel
theorem dL_walls_177 : decode cL_walls 177 = .ok (.invokevirtual 75, 3) := by decide +kernel
theorem dL_walls_180 : decode cL_walls 180 = .ok (.ladd, 1) := by decide +kernel
theorem dL_walls_181 : decode cL_walls 181 = .ok (.lcmp, 1) := by decide +kernel
theorem dL_walls_182 : decode cL_walls 182 = .ok (.ifCond .eq 5, 3) := by decide +kernel
theorem dL_walls_185 : decode cL_walls 185 = .ok (.iconst 0, 1) := by decide +kernel
theorem dL_walls_186 : decode cL_walls 186 = .ok (.ireturn, 1) := by decide +kernel
theorem dL_walls_187 : decode cL_walls 187 = .ok (.iinc 6 1, 3) := by decide +kernel
theorem dL_walls_190 : decode cL_walls 190 = .ok (.goto (-48), 3) := by decide +kernel
theorem dL_walls_193 : decode cL_walls 193 = .ok (.iinc 5 1, 3) := by decide +kernel
theorem dL_walls_196 : decode cL_walls 196 = .ok (.goto (-108), 3) := by decide +kernel
theorem dL_walls_199 : decode cL_walls 199 = .ok (.iconst 0, 1) := by decide +kernel
theorem dL_walls_200 : decode cL_walls 200 = .ok (.istore 5, 2) := by decide +kernel
theorem dL_walls_202 : decode cL_walls 202 = .ok (.iload 5, 2) := by decide +kernel
theorem dL_walls_204 : decode cL_walls 204 = .ok (.iconst 2, 1) := by decide +kernel
theorem dL_walls_205 : decode cL_walls 205 = .ok (.if_icmp .ge 60, 3) := by decide +kernel
theorem dL_walls_208 : decode cL_walls 208 = .ok (.aload_n 0, 1) := by decide +kernel
theorem dL_walls_209 : decode cL_walls 209 = .ok (.iconst 0, 1) := by decide +kernel
theorem dL_walls_210 : decode cL_walls 210 = .ok (.iload 5, 2) := by decide +kernel
theorem dL_walls_212 : decode cL_walls 212 = .ok (.invokevirtual 83, 3) := by decide +kernel
theorem dL_walls_215 : decode cL_walls 215 = .ok (.istore 6, 2) := by decide +kernel
theorem dL_walls_217 : decode cL_walls 217 = .ok (.iload 6, 2) := by decide +kernel
theorem dL_walls_219 : decode cL_walls 219 = .ok (.ifCond .lt 31, 3) := by decide +kernel
theorem dL_walls_222 : decode cL_walls 222 = .ok (.iload 6, 2) := by decide +kernel
theorem dL_walls_224 : decode cL_walls 224 = .ok (.iload_n 2, 1) := by decide +kernel
theorem dL_walls_225 : decode cL_walls 225 = .ok (.iconst 1, 1) := by decide +kernel
theorem dL_walls_226 : decode cL_walls 226 = .ok (.isub, 1) := by decide +kernel
theorem dL_walls_227 : decode cL_walls 227 = .ok (.if_icmp .lt 30, 3) := by decide +kernel
theorem dL_walls_230 : decode cL_walls 230 = .ok (.iload 5, 2) := by decide +kernel
theorem dL_walls_232 : decode cL_walls 232 = .ok (.ifCond .ne 12, 3) := by decide +kernel
theorem dL_walls_235 : decode cL_walls 235 = .ok (.lload_n 3, 1) := by decide +kernel
theorem dL_walls_236 : decode cL_walls 236 = .ok (.lconst 0, 1) := by decide +kernel
theorem dL_walls_237 : decode cL_walls 237 = .ok (.lcmp, 1) := by decide +kernel
theorem dL_walls_238 : decode cL_walls 238 = .ok (.ifCond .ge 12, 3) := by decide +kernel
theorem dL_walls_241 : decode cL_walls 241 = .ok (.goto 16, 3) := by decide +kernel
theorem dL_walls_244 : decode cL_walls 244 = .ok (.lload_n 3, 1) := by decide +kernel
theorem dL_walls_245 : decode cL_walls 245 = .ok (.lconst 0, 1) := by decide +kernel
theorem dL_walls_246 : decode cL_walls 246 = .ok (.lcmp, 1) := by decide +kernel
theorem dL_walls_247 : decode cL_walls 247 = .ok (.ifCond .le 10, 3) := by decide +kernel
theorem dL_walls_250 : decode cL_walls 250 = .ok (.iload 6, 2) := by decide +kernel
theorem dL_walls_252 : decode cL_walls 252 = .ok (.bipush (-9), 2) := by decide +kernel
theorem dL_walls_254 : decode cL_walls 254 = .ok (.if_icmp .ge 5, 3) := by decide +kernel
theorem dL_walls_257 : decode cL_walls 257 = .ok (.iconst 0, 1) := by decide +kernel
theorem dL_walls_258 : decode cL_walls 258 = .ok (.ireturn, 1) := by decide +kernel
theorem dL_walls_259 : decode cL_walls 259 = .ok (.iinc 5 1, 3) := by decide +kernel
theorem dL_walls_262 : decode cL_walls 262 = .ok (.goto (-60), 3) := by decide +kernel
theorem dL_walls_265 : decode cL_walls 265 = .ok (.iconst 1, 1) := by decide +kernel
theorem dL_walls_266 : decode cL_walls 266 = .ok (.ireturn, 1) := by decide +kernel
