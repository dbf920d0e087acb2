/-! decode rows -/
theorem dX9_init_0 : decode cX9_init 0 = .ok (.aload_n 0, 1) := by decide +kernel
theorem dX9_init_1 : decode cX9_init 1 = .ok (.invokespecial 1, 3) := by decide +kernel
theorem dX9_init_4 : decode cX9_init 4 = .ok (.aload_n 0, 1) := by decide +kernel
theorem dX9_init_5 : decode cX9_init 5 = .ok (.new 7, 3) := by decide +kernel
theorem dX9_init_8 : decode cX9_init 8 = .ok (.dup, 1) := by decide +kernel
theorem dX9_init_9 : decode cX9_init 9 = .ok (.invokespecial 9, 3) := by decide +kernel
theorem dX9_init_12 : decode cX9_init 12 = .ok (.putfield 10, 3) := by decide +kernel
theorem dX9_init_15 : decode cX9_init 15 = .ok (.aload_n 0, 1) := by decide +kernel
theorem dX9_init_16 : decode cX9_init 16 = .ok (.new 16, 3) := by decide +kernel
theorem dX9_init_19 : decode cX9_init 19 = .ok (.dup, 1) := by decide +kernel
theorem dX9_init_20 : decode cX9_init 20 = .ok (.invokespecial 18, 3) := by decide +kernel
theorem dX9_init_23 : decode cX9_init 23 = .ok (.putfield 19, 3) := by decide +kernel
theorem dX9_init_26 : decode cX9_init 26 = .ok (.aload_n 0, 1) := by decide +kernel
theorem dX9_init_27 : decode cX9_init 27 = .ok (.new 23, 3) := by decide +kernel
theorem dX9_init_30 : decode cX9_init 30 = .ok (.dup, 1) := by decide +kernel
theorem dX9_init_31 : decode cX9_init 31 = .ok (.invokespecial 25, 3) := by decide +kernel
theorem dX9_init_34 : decode cX9_init 34 = .ok (.putfield 26, 3) := by decide +kernel
theorem dX9_init_37 : decode cX9_init 37 = .ok (.aload_n 0, 1) := by decide +kernel
theorem dX9_init_38 : decode cX9_init 38 = .ok (.new 30, 3) := by decide +kernel
theorem dX9_init_41 : decode cX9_init 41 = .ok (.dup, 1) := by decide +kernel
theorem dX9_init_42 : decode cX9_init 42 = .ok (.invokespecial 32, 3) := by decide +kernel
theorem dX9_init_45 : decode cX9_init 45 = .ok (.putfield 33, 3) := by decide +kernel
theorem dX9_init_48 : decode cX9_init 48 = .ok (.aload_n 0, 1) := by decide +kernel
theorem dX9_init_49 : decode cX9_init 49 = .ok (.new 37, 3) := by decide +kernel
theorem dX9_init_52 : decode cX9_init 52 = .ok (.dup, 1) := by decide +kernel
theorem dX9_init_53 : decode cX9_init 53 = .ok (.invokespecial 39, 3) := by decide +kernel
theorem dX9_init_56 : decode cX9_init 56 = .ok (.putfield 40, 3) := by decide +kernel
theorem dX9_init_59 : decode cX9_init 59 = .ok (.aload_n 0, 1) := by decide +kernel
theorem dX9_init_60 : decode cX9_init 60 = .ok (.new 37, 3) := by decide +kernel
theorem dX9_init_63 : decode cX9_init 63 = .ok (.dup, 1) := by decide +kernel
theorem dX9_init_64 : decode cX9_init 64 = .ok (.invokespecial 39, 3) := by decide +kernel
theorem dX9_init_67 : decode cX9_init 67 = .ok (.putfield 44, 3) := by decide +kernel
theorem dX9_init_70 : decode cX9_init 70 = .ok (.aload_n 0, 1) := by decide +kernel
theorem dX9_init_71 : decode cX9_init 71 = .ok (.new 47, 3) := by decide +kernel
theorem dX9_init_74 : decode cX9_init 74 = .ok (.dup, 1) := by decide +kernel
theorem dX9_init_75 : decode cX9_init 75 = .ok (.invokespecial 49, 3) := by decide +kernel
theorem dX9_init_78 : decode cX9_init 78 = .ok (.putfield 50, 3) := by decide +kernel
theorem dX9_init_81 : decode cX9_init 81 = .ok (.return_, 1) := by decide +kernel
theorem dX9_library_0 : decode cX9_library 0 = .ok (.aload_n 0, 1) := by decide +kernel
theorem dX9_library_1 : decode cX9_library 1 = .ok (.getfield 10, 3) := by decide +kernel
theorem dX9_library_4 : decode cX9_library 4 = .ok (.iload_n 1, 1) := by decide +kernel
theorem dX9_library_5 : decode cX9_library 5 = .ok (.invokevirtual 54, 3) := by decide +kernel
theorem dX9_library_8 : decode cX9_library 8 = .ok (.ireturn, 1) := by decide +kernel
theorem dX9_member_0 : decode cX9_member 0 = .ok (.aload_n 0, 1) := by decide +kernel
theorem dX9_member_1 : decode cX9_member 1 = .ok (.getfield 10, 3) := by decide +kernel
theorem dX9_member_4 : decode cX9_member 4 = .ok (.iload_n 1, 1) := by decide +kernel
theorem dX9_member_5 : decode cX9_member 5 = .ok (.invokevirtual 58, 3) := by decide +kernel
theorem dX9_member_8 : decode cX9_member 8 = .ok (.ifCond .ne 6, 3) := by decide +kernel
theorem dX9_member_11 : decode cX9_member 11 = .ok (.bipush (-2), 2) := by decide +kernel
theorem dX9_member_13 : decode cX9_member 13 = .ok (.ireturn, 1) := by decide +kernel
theorem dX9_member_14 : decode cX9_member 14 = .ok (.iload_n 2, 1) := by decide +kernel
theorem dX9_member_15 : decode cX9_member 15 = .ok (.invokestatic 62, 3) := by decide +kernel
theorem dX9_member_18 : decode cX9_member 18 = .ok (.ifCond .ne 6, 3) := by decide +kernel
theorem dX9_member_21 : decode cX9_member 21 = .ok (.bipush (-4), 2) := by decide +kernel
theorem dX9_member_23 : decode cX9_member 23 = .ok (.ireturn, 1) := by decide +kernel
theorem dX9_member_24 : decode cX9_member 24 = .ok (.aload_n 0, 1) := by decide +kernel
theorem dX9_member_25 : decode cX9_member 25 = .ok (.getfield 10, 3) := by decide +kernel
theorem dX9_member_28 : decode cX9_member 28 = .ok (.iload_n 1, 1) := by decide +kernel
theorem dX9_member_29 : decode cX9_member 29 = .ok (.iload_n 2, 1) := by decide +kernel
theorem dX9_member_30 : decode cX9_member 30 = .ok (.invokevirtual 65, 3) := by decide +kernel
theorem dX9_member_33 : decode cX9_member 33 = .ok (.ifCond .eq 6, 3) := by decide +kernel
theorem dX9_member_36 : decode cX9_member 36 = .ok (.bipush (-5), 2) := by decide +kernel
theorem dX9_member_38 : decode cX9_member 38 = .ok (.ireturn, 1) := by decide +kernel
theorem dX9_member_39 : decode cX9_member 39 = .ok (.aload_n 0, 1) := by decide +kernel
theorem dX9_member_40 : decode cX9_member 40 = .ok (.getfield 10, 3) := by decide +kernel
theorem dX9_member_43 : decode cX9_member 43 = .ok (.iload_n 1, 1) := by decide +kernel
theorem dX9_member_44 : decode cX9_member 44 = .ok (.iload_n 2, 1) := by decide +kernel
theorem dX9_member_45 : decode cX9_member 45 = .ok (.invokevirtual 69, 3) := by decide +kernel
theorem dX9_member_48 : decode cX9_member 48 = .ok (.ireturn, 1) := by decide +kernel
theorem dX9_line_0 : decode cX9_line 0 = .ok (.aload_n 0, 1) := by decide +kernel
theorem dX9_line_1 : decode cX9_line 1 = .ok (.getfield 10, 3) := by decide +kernel
theorem dX9_line_4 : decode cX9_line 4 = .ok (.iload_n 1, 1) := by decide +kernel
theorem dX9_line_5 : decode cX9_line 5 = .ok (.invokevirtual 72, 3) := by decide +kernel
theorem dX9_line_8 : decode cX9_line 8 = .ok (.astore 4, 2) := by decide +kernel
theorem dX9_line_10 : decode cX9_line 10 = .ok (.aload 4, 2) := by decide +kernel
theorem dX9_line_12 : decode cX9_line 12 = .ok (.ifnull 24, 3) := by decide +kernel
theorem dX9_line_15 : decode cX9_line 15 = .ok (.iload_n 2, 1) := by decide +kernel
theorem dX9_line_16 : decode cX9_line 16 = .ok (.invokestatic 76, 3) := by decide +kernel
theorem dX9_line_19 : decode cX9_line 19 = .ok (.ifCond .eq 17, 3) := by decide +kernel
theorem dX9_line_22 : decode cX9_line 22 = .ok (.iload_n 3, 1) := by decide +kernel
theorem dX9_line_23 : decode cX9_line 23 = .ok (.invokestatic 79, 3) := by decide +kernel
theorem dX9_line_26 : decode cX9_line 26 = .ok (.ifCond .eq 10, 3) := by decide +kernel
theorem dX9_line_29 : decode cX9_line 29 = .ok (.aload 4, 2) := by decide +kernel
theorem dX9_line_31 : decode cX9_line 31 = .ok (.iload_n 2, 1) := by decide +kernel
theorem dX9_line_32 : decode cX9_line 32 = .ok (.iload_n 3, 1) := by decide +kernel
theorem dX9_line_33 : decode cX9_line 33 = .ok (.invokevirtual 82, 3) := by decide +kernel
theorem dX9_line_36 : decode cX9_line 36 = .ok (.return_, 1) := by decide +kernel
theorem dX9_copy_0 : decode cX9_copy 0 = .ok (.aload_n 0, 1) := by decide +kernel
theorem dX9_copy_1 : decode cX9_copy 1 = .ok (.getfield 10, 3) := by decide +kernel
theorem dX9_copy_4 : decode cX9_copy 4 = .ok (.iload_n 1, 1) := by decide +kernel
theorem dX9_copy_5 : decode cX9_copy 5 = .ok (.iload_n 2, 1) := by decide +kernel
theorem dX9_copy_6 : decode cX9_copy 6 = .ok (.iload_n 3, 1) := by decide +kernel
theorem dX9_copy_7 : decode cX9_copy 7 = .ok (.iload 4, 2) := by decide +kernel
theorem dX9_copy_9 : decode cX9_copy 9 = .ok (.invokevirtual 88, 3) := by decide +kernel
theorem dX9_copy_12 : decode cX9_copy 12 = .ok (.istore 5, 2) := by decide +kernel
theorem dX9_copy_14 : decode cX9_copy 14 = .ok (.aload_n 0, 1) := by decide +kernel
theorem dX9_copy_15 : decode cX9_copy 15 = .ok (.getfield 50, 3) := by decide +kernel
theorem dX9_copy_18 : decode cX9_copy 18 = .ok (.iload 5, 2) := by decide +kernel
theorem dX9_copy_20 : decode cX9_copy 20 = .ok (.invokevirtual 92, 3) := by decide +kernel
theorem dX9_copy_23 : decode cX9_copy 23 = .ok (.ifCond .eq 15, 3) := by decide +kernel
theorem dX9_copy_26 : decode cX9_copy 26 = .ok (.aload_n 0, 1) := by decide +kernel
theorem dX9_copy_27 : decode cX9_copy 27 = .ok (.getfield 10, 3) := by decide +kernel
theorem dX9_copy_30 : decode cX9_copy 30 = .ok (.iload_n 1, 1) := by decide +kernel
theorem dX9_copy_31 : decode cX9_copy 31 = .ok (.iload_n 2, 1) := by decide +kernel
theorem dX9_copy_32 : decode cX9_copy 32 = .ok (.iload_n 3, 1) := by decide +kernel
theorem dX9_copy_33 : decode cX9_copy 33 = .ok (.iload 4, 2) := by decide +kernel
theorem dX9_copy_35 : decode cX9_copy 35 = .ok (.invokevirtual 95, 3) := by decide +kernel
theorem dX9_copy_38 : decode cX9_copy 38 = .ok (.iload 5, 2) := by decide +kernel
theorem dX9_copy_40 : decode cX9_copy 40 = .ok (.ireturn, 1) := by decide +kernel
theorem dX9_move_0 : decode cX9_move 0 = .ok (.aload_n 0, 1) := by decide +kernel
theorem dX9_move_1 : decode cX9_move 1 = .ok (.getfield 10, 3) := by decide +kernel
theorem dX9_move_4 : decode cX9_move 4 = .ok (.iload_n 1, 1) := by decide +kernel
theorem dX9_move_5 : decode cX9_move 5 = .ok (.iload_n 2, 1) := by decide +kernel
theorem dX9_move_6 : decode cX9_move 6 = .ok (.iload_n 3, 1) := by decide +kernel
theorem dX9_move_7 : decode cX9_move 7 = .ok (.iload 4, 2) := by decide +kernel
theorem dX9_move_9 : decode cX9_move 9 = .ok (.invokevirtual 99, 3) := by decide +kernel
theorem dX9_move_12 : decode cX9_move 12 = .ok (.istore 5, 2) := by decide +kernel
theorem dX9_move_14 : decode cX9_move 14 = .ok (.aload_n 0, 1) := by decide +kernel
theorem dX9_move_15 : decode cX9_move 15 = .ok (.getfield 50, 3) := by decide +kernel
theorem dX9_move_18 : decode cX9_move 18 = .ok (.iload 5, 2) := by decide +kernel
theorem dX9_move_20 : decode cX9_move 20 = .ok (.invokevirtual 92, 3) := by decide +kernel
theorem dX9_move_23 : decode cX9_move 23 = .ok (.ifCond .eq 20, 3) := by decide +kernel
theorem dX9_move_26 : decode cX9_move 26 = .ok (.iload 5, 2) := by decide +kernel
theorem dX9_move_28 : decode cX9_move 28 = .ok (.ifCond .ne 15, 3) := by decide +kernel
theorem dX9_move_31 : decode cX9_move 31 = .ok (.aload_n 0, 1) := by decide +kernel
theorem dX9_move_32 : decode cX9_move 32 = .ok (.getfield 10, 3) := by decide +kernel
theorem dX9_move_35 : decode cX9_move 35 = .ok (.iload_n 1, 1) := by decide +kernel
theorem dX9_move_36 : decode cX9_move 36 = .ok (.iload_n 2, 1) := by decide +kernel
theorem dX9_move_37 : decode cX9_move 37 = .ok (.iload_n 3, 1) := by decide +kernel
theorem dX9_move_38 : decode cX9_move 38 = .ok (.iload 4, 2) := by decide +kernel
theorem dX9_move_40 : decode cX9_move 40 = .ok (.invokevirtual 102, 3) := by decide +kernel
theorem dX9_move_43 : decode cX9_move 43 = .ok (.iload 5, 2) := by decide +kernel
theorem dX9_move_45 : decode cX9_move 45 = .ok (.ireturn, 1) := by decide +kernel
theorem dX9_compare_0 : decode cX9_compare 0 = .ok (.aload_n 0, 1) := by decide +kernel
theorem dX9_compare_1 : decode cX9_compare 1 = .ok (.getfield 10, 3) := by decide +kernel
theorem dX9_compare_4 : decode cX9_compare 4 = .ok (.iload_n 1, 1) := by decide +kernel
theorem dX9_compare_5 : decode cX9_compare 5 = .ok (.invokevirtual 72, 3) := by decide +kernel
theorem dX9_compare_8 : decode cX9_compare 8 = .ok (.astore_n 3, 1) := by decide +kernel
theorem dX9_compare_9 : decode cX9_compare 9 = .ok (.aload_n 0, 1) := by decide +kernel
theorem dX9_compare_10 : decode cX9_compare 10 = .ok (.getfield 10, 3) := by decide +kernel
theorem dX9_compare_13 : decode cX9_compare 13 = .ok (.iload_n 2, 1) := by decide +kernel
theorem dX9_compare_14 : decode cX9_compare 14 = .ok (.invokevirtual 72, 3) := by decide +kernel
theorem dX9_compare_17 : decode cX9_compare 17 = .ok (.astore 4, 2) := by decide +kernel
theorem dX9_compare_19 : decode cX9_compare 19 = .ok (.aload_n 3, 1) := by decide +kernel
theorem dX9_compare_20 : decode cX9_compare 20 = .ok (.ifnull 8, 3) := by decide +kernel
theorem dX9_compare_23 : decode cX9_compare 23 = .ok (.aload 4, 2) := by decide +kernel
theorem dX9_compare_25 : decode cX9_compare 25 = .ok (.ifnonnull 6, 3) := by decide +kernel
theorem dX9_compare_28 : decode cX9_compare 28 = .ok (.bipush (-2), 2) := by decide +kernel
theorem dX9_compare_30 : decode cX9_compare 30 = .ok (.ireturn, 1) := by decide +kernel
theorem dX9_compare_31 : decode cX9_compare 31 = .ok (.aload_n 0, 1) := by decide +kernel
theorem dX9_compare_32 : decode cX9_compare 32 = .ok (.getfield 33, 3) := by decide +kernel
theorem dX9_compare_35 : decode cX9_compare 35 = .ok (.aload_n 3, 1) := by decide +kernel
theorem dX9_compare_36 : decode cX9_compare 36 = .ok (.aload 4, 2) := by decide +kernel
theorem dX9_compare_38 : decode cX9_compare 38 = .ok (.invokevirtual 105, 3) := by decide +kernel
theorem dX9_compare_41 : decode cX9_compare 41 = .ok (.aload_n 0, 1) := by decide +kernel
theorem dX9_compare_42 : decode cX9_compare 42 = .ok (.getfield 33, 3) := by decide +kernel
theorem dX9_compare_45 : decode cX9_compare 45 = .ok (.invokevirtual 109, 3) := by decide +kernel
theorem dX9_compare_48 : decode cX9_compare 48 = .ok (.ireturn, 1) := by decide +kernel
theorem dX9_differ_0 : decode cX9_differ 0 = .ok (.aload_n 0, 1) := by decide +kernel
theorem dX9_differ_1 : decode cX9_differ 1 = .ok (.getfield 33, 3) := by decide +kernel
theorem dX9_differ_4 : decode cX9_differ 4 = .ok (.iload_n 1, 1) := by decide +kernel
theorem dX9_differ_5 : decode cX9_differ 5 = .ok (.iload_n 2, 1) := by decide +kernel
theorem dX9_differ_6 : decode cX9_differ 6 = .ok (.invokevirtual 113, 3) := by decide +kernel
theorem dX9_differ_9 : decode cX9_differ 9 = .ok (.ireturn, 1) := by decide +kernel
theorem dX9_ahead_0 : decode cX9_ahead 0 = .ok (.iload_n 1, 1) := by decide +kernel
theorem dX9_ahead_1 : decode cX9_ahead 1 = .ok (.ifCond .lt 9, 3) := by decide +kernel
theorem dX9_ahead_4 : decode cX9_ahead 4 = .ok (.iload_n 1, 1) := by decide +kernel
theorem dX9_ahead_5 : decode cX9_ahead 5 = .ok (.bipush 9, 2) := by decide +kernel
theorem dX9_ahead_7 : decode cX9_ahead 7 = .ok (.if_icmp .le 6, 3) := by decide +kernel
theorem dX9_ahead_10 : decode cX9_ahead 10 = .ok (.bipush (-4), 2) := by decide +kernel
theorem dX9_ahead_12 : decode cX9_ahead 12 = .ok (.ireturn, 1) := by decide +kernel
theorem dX9_ahead_13 : decode cX9_ahead 13 = .ok (.aload_n 0, 1) := by decide +kernel
theorem dX9_ahead_14 : decode cX9_ahead 14 = .ok (.getfield 33, 3) := by decide +kernel
theorem dX9_ahead_17 : decode cX9_ahead 17 = .ok (.iload_n 1, 1) := by decide +kernel
theorem dX9_ahead_18 : decode cX9_ahead 18 = .ok (.invokevirtual 116, 3) := by decide +kernel
theorem dX9_ahead_21 : decode cX9_ahead 21 = .ok (.ireturn, 1) := by decide +kernel
theorem dX9_change_0 : decode cX9_change 0 = .ok (.iload_n 1, 1) := by decide +kernel
theorem dX9_change_1 : decode cX9_change 1 = .ok (.invokestatic 76, 3) := by decide +kernel
theorem dX9_change_4 : decode cX9_change 4 = .ok (.ifCond .ne 4, 3) := by decide +kernel
theorem dX9_change_7 : decode cX9_change 7 = .ok (.return_, 1) := by decide +kernel
theorem dX9_change_8 : decode cX9_change 8 = .ok (.iload_n 2, 1) := by decide +kernel
theorem dX9_change_9 : decode cX9_change 9 = .ok (.ifCond .ne 14, 3) := by decide +kernel
theorem dX9_change_12 : decode cX9_change 12 = .ok (.aload_n 0, 1) := by decide +kernel
theorem dX9_change_13 : decode cX9_change 13 = .ok (.getfield 26, 3) := by decide +kernel
theorem dX9_change_16 : decode cX9_change 16 = .ok (.iload_n 1, 1) := by decide +kernel
theorem dX9_change_17 : decode cX9_change 17 = .ok (.invokevirtual 120, 3) := by decide +kernel
theorem dX9_change_20 : decode cX9_change 20 = .ok (.goto 19, 3) := by decide +kernel
theorem dX9_change_23 : decode cX9_change 23 = .ok (.iload_n 2, 1) := by decide +kernel
theorem dX9_change_24 : decode cX9_change 24 = .ok (.invokestatic 79, 3) := by decide +kernel
theorem dX9_change_27 : decode cX9_change 27 = .ok (.ifCond .eq 12, 3) := by decide +kernel
theorem dX9_change_30 : decode cX9_change 30 = .ok (.aload_n 0, 1) := by decide +kernel
theorem dX9_change_31 : decode cX9_change 31 = .ok (.getfield 26, 3) := by decide +kernel
theorem dX9_change_34 : decode cX9_change 34 = .ok (.iload_n 1, 1) := by decide +kernel
theorem dX9_change_35 : decode cX9_change 35 = .ok (.iload_n 2, 1) := by decide +kernel
theorem dX9_change_36 : decode cX9_change 36 = .ok (.invokevirtual 124, 3) := by decide +kernel
theorem dX9_change_39 : decode cX9_change 39 = .ok (.return_, 1) := by decide +kernel
theorem dX9_update_0 : decode cX9_update 0 = .ok (.aload_n 0, 1) := by decide +kernel
theorem dX9_update_1 : decode cX9_update 1 = .ok (.getfield 10, 3) := by decide +kernel
theorem dX9_update_4 : decode cX9_update 4 = .ok (.iload_n 1, 1) := by decide +kernel
theorem dX9_update_5 : decode cX9_update 5 = .ok (.invokevirtual 72, 3) := by decide +kernel
theorem dX9_update_8 : decode cX9_update 8 = .ok (.astore_n 2, 1) := by decide +kernel
theorem dX9_update_9 : decode cX9_update 9 = .ok (.aload_n 2, 1) := by decide +kernel
theorem dX9_update_10 : decode cX9_update 10 = .ok (.ifnonnull 6, 3) := by decide +kernel
theorem dX9_update_13 : decode cX9_update 13 = .ok (.bipush (-100), 2) := by decide +kernel
theorem dX9_update_15 : decode cX9_update 15 = .ok (.ireturn, 1) := by decide +kernel
theorem dX9_update_16 : decode cX9_update 16 = .ok (.aload_n 0, 1) := by decide +kernel
theorem dX9_update_17 : decode cX9_update 17 = .ok (.getfield 26, 3) := by decide +kernel
theorem dX9_update_20 : decode cX9_update 20 = .ok (.aload_n 2, 1) := by decide +kernel
theorem dX9_update_21 : decode cX9_update 21 = .ok (.invokevirtual 127, 3) := by decide +kernel
theorem dX9_update_24 : decode cX9_update 24 = .ok (.istore_n 3, 1) := by decide +kernel
theorem dX9_update_25 : decode cX9_update 25 = .ok (.iload_n 3, 1) := by decide +kernel
theorem dX9_update_26 : decode cX9_update 26 = .ok (.ifCond .ne 11, 3) := by decide +kernel
theorem dX9_update_29 : decode cX9_update 29 = .ok (.aload_n 0, 1) := by decide +kernel
theorem dX9_update_30 : decode cX9_update 30 = .ok (.getfield 26, 3) := by decide +kernel
theorem dX9_update_33 : decode cX9_update 33 = .ok (.aload_n 2, 1) := by decide +kernel
theorem dX9_update_34 : decode cX9_update 34 = .ok (.invokevirtual 131, 3) := by decide +kernel
theorem dX9_update_37 : decode cX9_update 37 = .ok (.aload_n 0, 1) := by decide +kernel
theorem dX9_update_38 : decode cX9_update 38 = .ok (.getfield 26, 3) := by decide +kernel
theorem dX9_update_41 : decode cX9_update 41 = .ok (.invokevirtual 135, 3) := by decide +kernel
theorem dX9_update_44 : decode cX9_update 44 = .ok (.iload_n 3, 1) := by decide +kernel
theorem dX9_update_45 : decode cX9_update 45 = .ok (.ifCond .ne 10, 3) := by decide +kernel
theorem dX9_update_48 : decode cX9_update 48 = .ok (.aload_n 2, 1) := by decide +kernel
theorem dX9_update_49 : decode cX9_update 49 = .ok (.invokevirtual 138, 3) := by decide +kernel
theorem dX9_update_52 : decode cX9_update 52 = .ok (.goto 5, 3) := by decide +kernel
theorem dX9_update_55 : decode cX9_update 55 = .ok (.iload_n 3, 1) := by decide +kernel
theorem dX9_update_56 : decode cX9_update 56 = .ok (.ineg, 1) := by decide +kernel
theorem dX9_update_57 : decode cX9_update 57 = .ok (.ireturn, 1) := by decide +kernel
theorem dX9_define_0 : decode cX9_define 0 = .ok (.iload_n 1, 1) := by decide +kernel
theorem dX9_define_1 : decode cX9_define 1 = .ok (.invokestatic 62, 3) := by decide +kernel
theorem dX9_define_4 : decode cX9_define 4 = .ok (.ifCond .ne 6, 3) := by decide +kernel
theorem dX9_define_7 : decode cX9_define 7 = .ok (.bipush (-4), 2) := by decide +kernel
theorem dX9_define_9 : decode cX9_define 9 = .ok (.ireturn, 1) := by decide +kernel
theorem dX9_define_10 : decode cX9_define 10 = .ok (.aload_n 0, 1) := by decide +kernel
theorem dX9_define_11 : decode cX9_define 11 = .ok (.getfield 19, 3) := by decide +kernel
theorem dX9_define_14 : decode cX9_define 14 = .ok (.iload_n 1, 1) := by decide +kernel
theorem dX9_define_15 : decode cX9_define 15 = .ok (.invokevirtual 139, 3) := by decide +kernel
theorem dX9_define_18 : decode cX9_define 18 = .ok (.ifnull 6, 3) := by decide +kernel
theorem dX9_define_21 : decode cX9_define 21 = .ok (.bipush (-5), 2) := by decide +kernel
theorem dX9_define_23 : decode cX9_define 23 = .ok (.ireturn, 1) := by decide +kernel
theorem dX9_define_24 : decode cX9_define 24 = .ok (.aload_n 0, 1) := by decide +kernel
theorem dX9_define_25 : decode cX9_define 25 = .ok (.getfield 19, 3) := by decide +kernel
theorem dX9_define_28 : decode cX9_define 28 = .ok (.iload_n 1, 1) := by decide +kernel
theorem dX9_define_29 : decode cX9_define 29 = .ok (.iload_n 2, 1) := by decide +kernel
theorem dX9_define_30 : decode cX9_define 30 = .ok (.invokevirtual 143, 3) := by decide +kernel
theorem dX9_define_33 : decode cX9_define 33 = .ok (.ireturn, 1) := by decide +kernel
theorem dX9_record_0 : decode cX9_record 0 = .ok (.aload_n 0, 1) := by decide +kernel
theorem dX9_record_1 : decode cX9_record 1 = .ok (.getfield 19, 3) := by decide +kernel
theorem dX9_record_4 : decode cX9_record 4 = .ok (.iload_n 1, 1) := by decide +kernel
theorem dX9_record_5 : decode cX9_record 5 = .ok (.invokevirtual 147, 3) := by decide +kernel
theorem dX9_record_8 : decode cX9_record 8 = .ok (.astore_n 3, 1) := by decide +kernel
theorem dX9_record_9 : decode cX9_record 9 = .ok (.aload_n 3, 1) := by decide +kernel
theorem dX9_record_10 : decode cX9_record 10 = .ok (.ifnonnull 8, 3) := by decide +kernel
theorem dX9_record_13 : decode cX9_record 13 = .ok (.bipush (-2), 2) := by decide +kernel
theorem dX9_record_15 : decode cX9_record 15 = .ok (.goto 8, 3) := by decide +kernel
theorem dX9_record_18 : decode cX9_record 18 = .ok (.aload_n 3, 1) := by decide +kernel
theorem dX9_record_19 : decode cX9_record 19 = .ok (.iload_n 2, 1) := by decide +kernel
theorem dX9_record_20 : decode cX9_record 20 = .ok (.invokevirtual 150, 3) := by decide +kernel
theorem dX9_record_23 : decode cX9_record 23 = .ok (.ireturn, 1) := by decide +kernel
theorem dX9_delete_0 : decode cX9_delete 0 = .ok (.aload_n 0, 1) := by decide +kernel
theorem dX9_delete_1 : decode cX9_delete 1 = .ok (.getfield 19, 3) := by decide +kernel
theorem dX9_delete_4 : decode cX9_delete 4 = .ok (.iload_n 1, 1) := by decide +kernel
theorem dX9_delete_5 : decode cX9_delete 5 = .ok (.invokevirtual 154, 3) := by decide +kernel
theorem dX9_delete_8 : decode cX9_delete 8 = .ok (.istore_n 2, 1) := by decide +kernel
theorem dX9_delete_9 : decode cX9_delete 9 = .ok (.aload_n 0, 1) := by decide +kernel
theorem dX9_delete_10 : decode cX9_delete 10 = .ok (.getfield 50, 3) := by decide +kernel
theorem dX9_delete_13 : decode cX9_delete 13 = .ok (.iload_n 2, 1) := by decide +kernel
theorem dX9_delete_14 : decode cX9_delete 14 = .ok (.invokevirtual 92, 3) := by decide +kernel
theorem dX9_delete_17 : decode cX9_delete 17 = .ok (.ifCond .eq 11, 3) := by decide +kernel
theorem dX9_delete_20 : decode cX9_delete 20 = .ok (.aload_n 0, 1) := by decide +kernel
theorem dX9_delete_21 : decode cX9_delete 21 = .ok (.getfield 19, 3) := by decide +kernel
theorem dX9_delete_24 : decode cX9_delete 24 = .ok (.iload_n 1, 1) := by decide +kernel
theorem dX9_delete_25 : decode cX9_delete 25 = .ok (.invokevirtual 157, 3) := by decide +kernel
theorem dX9_delete_28 : decode cX9_delete 28 = .ok (.iload_n 2, 1) := by decide +kernel
theorem dX9_delete_29 : decode cX9_delete 29 = .ok (.ireturn, 1) := by decide +kernel
theorem dX9_alter_0 : decode cX9_alter 0 = .ok (.aload_n 0, 1) := by decide +kernel
theorem dX9_alter_1 : decode cX9_alter 1 = .ok (.getfield 19, 3) := by decide +kernel
theorem dX9_alter_4 : decode cX9_alter 4 = .ok (.iload_n 1, 1) := by decide +kernel
theorem dX9_alter_5 : decode cX9_alter 5 = .ok (.iload_n 2, 1) := by decide +kernel
theorem dX9_alter_6 : decode cX9_alter 6 = .ok (.invokevirtual 160, 3) := by decide +kernel
theorem dX9_alter_9 : decode cX9_alter 9 = .ok (.istore_n 3, 1) := by decide +kernel
theorem dX9_alter_10 : decode cX9_alter 10 = .ok (.aload_n 0, 1) := by decide +kernel
theorem dX9_alter_11 : decode cX9_alter 11 = .ok (.getfield 19, 3) := by decide +kernel
theorem dX9_alter_14 : decode cX9_alter 14 = .ok (.iload_n 1, 1) := by decide +kernel
theorem dX9_alter_15 : decode cX9_alter 15 = .ok (.invokevirtual 147, 3) := by decide +kernel
theorem dX9_alter_18 : decode cX9_alter 18 = .ok (.astore 4, 2) := by decide +kernel
theorem dX9_alter_20 : decode cX9_alter 20 = .ok (.aload_n 0, 1) := by decide +kernel
theorem dX9_alter_21 : decode cX9_alter 21 = .ok (.getfield 50, 3) := by decide +kernel
theorem dX9_alter_24 : decode cX9_alter 24 = .ok (.iload_n 3, 1) := by decide +kernel
theorem dX9_alter_25 : decode cX9_alter 25 = .ok (.invokevirtual 92, 3) := by decide +kernel
theorem dX9_alter_28 : decode cX9_alter 28 = .ok (.ifCond .eq 14, 3) := by decide +kernel
theorem dX9_alter_31 : decode cX9_alter 31 = .ok (.aload 4, 2) := by decide +kernel
theorem dX9_alter_33 : decode cX9_alter 33 = .ok (.ifnull 9, 3) := by decide +kernel
theorem dX9_alter_36 : decode cX9_alter 36 = .ok (.aload 4, 2) := by decide +kernel
theorem dX9_alter_38 : decode cX9_alter 38 = .ok (.iload_n 2, 1) := by decide +kernel
theorem dX9_alter_39 : decode cX9_alter 39 = .ok (.invokevirtual 163, 3) := by decide +kernel
theorem dX9_alter_42 : decode cX9_alter 42 = .ok (.iload_n 3, 1) := by decide +kernel
theorem dX9_alter_43 : decode cX9_alter 43 = .ok (.ireturn, 1) := by decide +kernel
theorem dX9_repro_0 : decode cX9_repro 0 = .ok (.aload_n 0, 1) := by decide +kernel
theorem dX9_repro_1 : decode cX9_repro 1 = .ok (.getfield 19, 3) := by decide +kernel
theorem dX9_repro_4 : decode cX9_repro 4 = .ok (.iload_n 1, 1) := by decide +kernel
theorem dX9_repro_5 : decode cX9_repro 5 = .ok (.iload_n 2, 1) := by decide +kernel
theorem dX9_repro_6 : decode cX9_repro 6 = .ok (.invokevirtual 166, 3) := by decide +kernel
theorem dX9_repro_9 : decode cX9_repro 9 = .ok (.istore_n 3, 1) := by decide +kernel
theorem dX9_repro_10 : decode cX9_repro 10 = .ok (.aload_n 0, 1) := by decide +kernel
theorem dX9_repro_11 : decode cX9_repro 11 = .ok (.getfield 19, 3) := by decide +kernel
theorem dX9_repro_14 : decode cX9_repro 14 = .ok (.iload_n 1, 1) := by decide +kernel
theorem dX9_repro_15 : decode cX9_repro 15 = .ok (.invokevirtual 147, 3) := by decide +kernel
theorem dX9_repro_18 : decode cX9_repro 18 = .ok (.astore 4, 2) := by decide +kernel
theorem dX9_repro_20 : decode cX9_repro 20 = .ok (.aload_n 0, 1) := by decide +kernel
theorem dX9_repro_21 : decode cX9_repro 21 = .ok (.getfield 19, 3) := by decide +kernel
theorem dX9_repro_24 : decode cX9_repro 24 = .ok (.iload_n 2, 1) := by decide +kernel
theorem dX9_repro_25 : decode cX9_repro 25 = .ok (.invokevirtual 147, 3) := by decide +kernel
theorem dX9_repro_28 : decode cX9_repro 28 = .ok (.astore 5, 2) := by decide +kernel
theorem dX9_repro_30 : decode cX9_repro 30 = .ok (.aload_n 0, 1) := by decide +kernel
theorem dX9_repro_31 : decode cX9_repro 31 = .ok (.getfield 50, 3) := by decide +kernel
theorem dX9_repro_34 : decode cX9_repro 34 = .ok (.iload_n 3, 1) := by decide +kernel
theorem dX9_repro_35 : decode cX9_repro 35 = .ok (.invokevirtual 92, 3) := by decide +kernel
theorem dX9_repro_38 : decode cX9_repro 38 = .ok (.ifCond .eq 24, 3) := by decide +kernel
theorem dX9_repro_41 : decode cX9_repro 41 = .ok (.iload_n 3, 1) := by decide +kernel
theorem dX9_repro_42 : decode cX9_repro 42 = .ok (.ifCond .ne 20, 3) := by decide +kernel
theorem dX9_repro_45 : decode cX9_repro 45 = .ok (.aload 4, 2) := by decide +kernel
theorem dX9_repro_47 : decode cX9_repro 47 = .ok (.ifnull 15, 3) := by decide +kernel
theorem dX9_repro_50 : decode cX9_repro 50 = .ok (.aload 5, 2) := by decide +kernel
theorem dX9_repro_52 : decode cX9_repro 52 = .ok (.ifnull 10, 3) := by decide +kernel
theorem dX9_repro_55 : decode cX9_repro 55 = .ok (.aload 5, 2) := by decide +kernel
theorem dX9_repro_57 : decode cX9_repro 57 = .ok (.aload 4, 2) := by decide +kernel
theorem dX9_repro_59 : decode cX9_repro 59 = .ok (.invokevirtual 169, 3) := by decide +kernel
theorem dX9_repro_62 : decode cX9_repro 62 = .ok (.iload_n 3, 1) := by decide +kernel
theorem dX9_repro_63 : decode cX9_repro 63 = .ok (.ireturn, 1) := by decide +kernel
theorem dX9_generate_0 : decode cX9_generate 0 = .ok (.aload_n 0, 1) := by decide +kernel
theorem dX9_generate_1 : decode cX9_generate 1 = .ok (.getfield 19, 3) := by decide +kernel
theorem dX9_generate_4 : decode cX9_generate 4 = .ok (.iload_n 1, 1) := by decide +kernel
theorem dX9_generate_5 : decode cX9_generate 5 = .ok (.iload_n 2, 1) := by decide +kernel
theorem dX9_generate_6 : decode cX9_generate 6 = .ok (.invokevirtual 173, 3) := by decide +kernel
theorem dX9_generate_9 : decode cX9_generate 9 = .ok (.istore 5, 2) := by decide +kernel
theorem dX9_generate_11 : decode cX9_generate 11 = .ok (.aload_n 0, 1) := by decide +kernel
theorem dX9_generate_12 : decode cX9_generate 12 = .ok (.getfield 19, 3) := by decide +kernel
theorem dX9_generate_15 : decode cX9_generate 15 = .ok (.iload_n 1, 1) := by decide +kernel
theorem dX9_generate_16 : decode cX9_generate 16 = .ok (.invokevirtual 147, 3) := by decide +kernel
theorem dX9_generate_19 : decode cX9_generate 19 = .ok (.astore 6, 2) := by decide +kernel
theorem dX9_generate_21 : decode cX9_generate 21 = .ok (.aload_n 0, 1) := by decide +kernel
theorem dX9_generate_22 : decode cX9_generate 22 = .ok (.getfield 50, 3) := by decide +kernel
theorem dX9_generate_25 : decode cX9_generate 25 = .ok (.iload 5, 2) := by decide +kernel
theorem dX9_generate_27 : decode cX9_generate 27 = .ok (.invokevirtual 92, 3) := by decide +kernel
theorem dX9_generate_30 : decode cX9_generate 30 = .ok (.ifCond .eq 17, 3) := by decide +kernel
theorem dX9_generate_33 : decode cX9_generate 33 = .ok (.aload 6, 2) := by decide +kernel
theorem dX9_generate_35 : decode cX9_generate 35 = .ok (.ifnull 12, 3) := by decide +kernel
theorem dX9_generate_38 : decode cX9_generate 38 = .ok (.aload 6, 2) := by decide +kernel
theorem dX9_generate_40 : decode cX9_generate 40 = .ok (.iload_n 2, 1) := by decide +kernel
theorem dX9_generate_41 : decode cX9_generate 41 = .ok (.iload_n 3, 1) := by decide +kernel
theorem dX9_generate_42 : decode cX9_generate 42 = .ok (.iload 4, 2) := by decide +kernel
theorem dX9_generate_44 : decode cX9_generate 44 = .ok (.invokevirtual 176, 3) := by decide +kernel
theorem dX9_generate_47 : decode cX9_generate 47 = .ok (.iload 5, 2) := by decide +kernel
theorem dX9_generate_49 : decode cX9_generate 49 = .ok (.ireturn, 1) := by decide +kernel
theorem dX9_verify_0 : decode cX9_verify 0 = .ok (.aload_n 0, 1) := by decide +kernel
theorem dX9_verify_1 : decode cX9_verify 1 = .ok (.getfield 19, 3) := by decide +kernel
theorem dX9_verify_4 : decode cX9_verify 4 = .ok (.iload_n 1, 1) := by decide +kernel
theorem dX9_verify_5 : decode cX9_verify 5 = .ok (.invokevirtual 180, 3) := by decide +kernel
theorem dX9_verify_8 : decode cX9_verify 8 = .ok (.istore_n 2, 1) := by decide +kernel
theorem dX9_verify_9 : decode cX9_verify 9 = .ok (.aload_n 0, 1) := by decide +kernel
theorem dX9_verify_10 : decode cX9_verify 10 = .ok (.getfield 19, 3) := by decide +kernel
theorem dX9_verify_13 : decode cX9_verify 13 = .ok (.iload_n 1, 1) := by decide +kernel
theorem dX9_verify_14 : decode cX9_verify 14 = .ok (.invokevirtual 147, 3) := by decide +kernel
theorem dX9_verify_17 : decode cX9_verify 17 = .ok (.astore_n 3, 1) := by decide +kernel
theorem dX9_verify_18 : decode cX9_verify 18 = .ok (.aload_n 0, 1) := by decide +kernel
theorem dX9_verify_19 : decode cX9_verify 19 = .ok (.getfield 50, 3) := by decide +kernel
theorem dX9_verify_22 : decode cX9_verify 22 = .ok (.iload_n 2, 1) := by decide +kernel
theorem dX9_verify_23 : decode cX9_verify 23 = .ok (.invokevirtual 92, 3) := by decide +kernel
theorem dX9_verify_26 : decode cX9_verify 26 = .ok (.ifCond .eq 11, 3) := by decide +kernel
theorem dX9_verify_29 : decode cX9_verify 29 = .ok (.aload_n 3, 1) := by decide +kernel
theorem dX9_verify_30 : decode cX9_verify 30 = .ok (.ifnull 7, 3) := by decide +kernel
theorem dX9_verify_33 : decode cX9_verify 33 = .ok (.aload_n 3, 1) := by decide +kernel
theorem dX9_verify_34 : decode cX9_verify 34 = .ok (.invokevirtual 183, 3) := by decide +kernel
theorem dX9_verify_37 : decode cX9_verify 37 = .ok (.iload_n 2, 1) := by decide +kernel
theorem dX9_verify_38 : decode cX9_verify 38 = .ok (.ireturn, 1) := by decide +kernel
theorem dX9_export0_0 : decode cX9_export0 0 = .ok (.aload_n 0, 1) := by decide +kernel
theorem dX9_export0_1 : decode cX9_export0 1 = .ok (.getfield 19, 3) := by decide +kernel
theorem dX9_export0_4 : decode cX9_export0 4 = .ok (.iload_n 1, 1) := by decide +kernel
theorem dX9_export0_5 : decode cX9_export0 5 = .ok (.invokevirtual 147, 3) := by decide +kernel
theorem dX9_export0_8 : decode cX9_export0 8 = .ok (.astore_n 2, 1) := by decide +kernel
theorem dX9_export0_9 : decode cX9_export0 9 = .ok (.aload_n 2, 1) := by decide +kernel
theorem dX9_export0_10 : decode cX9_export0 10 = .ok (.ifnonnull 6, 3) := by decide +kernel
theorem dX9_export0_13 : decode cX9_export0 13 = .ok (.bipush (-2), 2) := by decide +kernel
theorem dX9_export0_15 : decode cX9_export0 15 = .ok (.ireturn, 1) := by decide +kernel
theorem dX9_export0_16 : decode cX9_export0 16 = .ok (.aload_n 2, 1) := by decide +kernel
theorem dX9_export0_17 : decode cX9_export0 17 = .ok (.aload_n 0, 1) := by decide +kernel
theorem dX9_export0_18 : decode cX9_export0 18 = .ok (.getfield 40, 3) := by decide +kernel
theorem dX9_export0_21 : decode cX9_export0 21 = .ok (.invokevirtual 186, 3) := by decide +kernel
theorem dX9_export0_24 : decode cX9_export0 24 = .ok (.aload_n 0, 1) := by decide +kernel
theorem dX9_export0_25 : decode cX9_export0 25 = .ok (.getfield 40, 3) := by decide +kernel
theorem dX9_export0_28 : decode cX9_export0 28 = .ok (.invokevirtual 190, 3) := by decide +kernel
theorem dX9_export0_31 : decode cX9_export0 31 = .ok (.ireturn, 1) := by decide +kernel
theorem dX9_octet_0 : decode cX9_octet 0 = .ok (.aload_n 0, 1) := by decide +kernel
theorem dX9_octet_1 : decode cX9_octet 1 = .ok (.getfield 40, 3) := by decide +kernel
theorem dX9_octet_4 : decode cX9_octet 4 = .ok (.iload_n 1, 1) := by decide +kernel
theorem dX9_octet_5 : decode cX9_octet 5 = .ok (.invokevirtual 191, 3) := by decide +kernel
theorem dX9_octet_8 : decode cX9_octet 8 = .ok (.ifCond .ne 11, 3) := by decide +kernel
theorem dX9_octet_11 : decode cX9_octet 11 = .ok (.new 194, 3) := by decide +kernel
theorem dX9_octet_14 : decode cX9_octet 14 = .ok (.dup, 1) := by decide +kernel
theorem dX9_octet_15 : decode cX9_octet 15 = .ok (.invokespecial 196, 3) := by decide +kernel
theorem dX9_octet_18 : decode cX9_octet 18 = .ok (.athrow, 1) := by decide +kernel
theorem dX9_octet_19 : decode cX9_octet 19 = .ok (.aload_n 0, 1) := by decide +kernel
theorem dX9_octet_20 : decode cX9_octet 20 = .ok (.getfield 40, 3) := by decide +kernel
theorem dX9_octet_23 : decode cX9_octet 23 = .ok (.iload_n 1, 1) := by decide +kernel
theorem dX9_octet_24 : decode cX9_octet 24 = .ok (.invokevirtual 197, 3) := by decide +kernel
theorem dX9_octet_27 : decode cX9_octet 27 = .ok (.ireturn, 1) := by decide +kernel
theorem dX9_import0_0 : decode cX9_import0 0 = .ok (.iload_n 1, 1) := by decide +kernel
theorem dX9_import0_1 : decode cX9_import0 1 = .ok (.sipush 255, 3) := by decide +kernel
theorem dX9_import0_4 : decode cX9_import0 4 = .ok (.iand, 1) := by decide +kernel
theorem dX9_import0_5 : decode cX9_import0 5 = .ok (.istore_n 2, 1) := by decide +kernel
theorem dX9_import0_6 : decode cX9_import0 6 = .ok (.aload_n 0, 1) := by decide +kernel
theorem dX9_import0_7 : decode cX9_import0 7 = .ok (.iload_n 2, 1) := by decide +kernel
theorem dX9_import0_8 : decode cX9_import0 8 = .ok (.invokevirtual 201, 3) := by decide +kernel
theorem dX9_import0_11 : decode cX9_import0 11 = .ok (.ifCond .ne 12, 3) := by decide +kernel
theorem dX9_import0_14 : decode cX9_import0 14 = .ok (.aload_n 0, 1) := by decide +kernel
theorem dX9_import0_15 : decode cX9_import0 15 = .ok (.getfield 44, 3) := by decide +kernel
theorem dX9_import0_18 : decode cX9_import0 18 = .ok (.invokevirtual 204, 3) := by decide +kernel
theorem dX9_import0_21 : decode cX9_import0 21 = .ok (.iconst (-1), 1) := by decide +kernel
theorem dX9_import0_22 : decode cX9_import0 22 = .ok (.ireturn, 1) := by decide +kernel
theorem dX9_import0_23 : decode cX9_import0 23 = .ok (.aload_n 0, 1) := by decide +kernel
theorem dX9_import0_24 : decode cX9_import0 24 = .ok (.getfield 44, 3) := by decide +kernel
theorem dX9_import0_27 : decode cX9_import0 27 = .ok (.iload_n 2, 1) := by decide +kernel
theorem dX9_import0_28 : decode cX9_import0 28 = .ok (.invokevirtual 205, 3) := by decide +kernel
theorem dX9_import0_31 : decode cX9_import0 31 = .ok (.aload_n 0, 1) := by decide +kernel
theorem dX9_import0_32 : decode cX9_import0 32 = .ok (.invokevirtual 208, 3) := by decide +kernel
theorem dX9_import0_35 : decode cX9_import0 35 = .ok (.ifCond .ne 5, 3) := by decide +kernel
theorem dX9_import0_38 : decode cX9_import0 38 = .ok (.iconst 0, 1) := by decide +kernel
theorem dX9_import0_39 : decode cX9_import0 39 = .ok (.ireturn, 1) := by decide +kernel
theorem dX9_import0_40 : decode cX9_import0 40 = .ok (.aload_n 0, 1) := by decide +kernel
theorem dX9_import0_41 : decode cX9_import0 41 = .ok (.getfield 19, 3) := by decide +kernel
theorem dX9_import0_44 : decode cX9_import0 44 = .ok (.aload_n 0, 1) := by decide +kernel
theorem dX9_import0_45 : decode cX9_import0 45 = .ok (.getfield 44, 3) := by decide +kernel
theorem dX9_import0_48 : decode cX9_import0 48 = .ok (.invokevirtual 212, 3) := by decide +kernel
theorem dX9_import0_51 : decode cX9_import0 51 = .ok (.istore_n 3, 1) := by decide +kernel
theorem dX9_import0_52 : decode cX9_import0 52 = .ok (.aload_n 0, 1) := by decide +kernel
theorem dX9_import0_53 : decode cX9_import0 53 = .ok (.getfield 44, 3) := by decide +kernel
theorem dX9_import0_56 : decode cX9_import0 56 = .ok (.invokevirtual 204, 3) := by decide +kernel
theorem dX9_import0_59 : decode cX9_import0 59 = .ok (.iload_n 3, 1) := by decide +kernel
theorem dX9_import0_60 : decode cX9_import0 60 = .ok (.ireturn, 1) := by decide +kernel
theorem dX9_dump_0 : decode cX9_dump 0 = .ok (.aload_n 0, 1) := by decide +kernel
theorem dX9_dump_1 : decode cX9_dump 1 = .ok (.getfield 40, 3) := by decide +kernel
theorem dX9_dump_4 : decode cX9_dump 4 = .ok (.iload_n 1, 1) := by decide +kernel
theorem dX9_dump_5 : decode cX9_dump 5 = .ok (.iload_n 2, 1) := by decide +kernel
theorem dX9_dump_6 : decode cX9_dump 6 = .ok (.invokestatic 216, 3) := by decide +kernel
theorem dX9_dump_9 : decode cX9_dump 9 = .ok (.ireturn, 1) := by decide +kernel
theorem dX9_dry_0 : decode cX9_dry 0 = .ok (.aload_n 0, 1) := by decide +kernel
theorem dX9_dry_1 : decode cX9_dry 1 = .ok (.getfield 50, 3) := by decide +kernel
theorem dX9_dry_4 : decode cX9_dry 4 = .ok (.iload_n 1, 1) := by decide +kernel
theorem dX9_dry_5 : decode cX9_dry 5 = .ok (.invokevirtual 222, 3) := by decide +kernel
theorem dX9_dry_8 : decode cX9_dry 8 = .ok (.ireturn, 1) := by decide +kernel
theorem dX9_greatest_0 : decode cX9_greatest 0 = .ok (.aload_n 0, 1) := by decide +kernel
theorem dX9_greatest_1 : decode cX9_greatest 1 = .ok (.getfield 50, 3) := by decide +kernel
theorem dX9_greatest_4 : decode cX9_greatest 4 = .ok (.invokevirtual 225, 3) := by decide +kernel
theorem dX9_greatest_7 : decode cX9_greatest 7 = .ok (.ireturn, 1) := by decide +kernel
theorem dX9_step_0 : decode cX9_step 0 = .ok (.aload_n 0, 1) := by decide +kernel
theorem dX9_step_1 : decode cX9_step 1 = .ok (.getfield 50, 3) := by decide +kernel
theorem dX9_step_4 : decode cX9_step 4 = .ok (.invokevirtual 228, 3) := by decide +kernel
theorem dX9_step_7 : decode cX9_step 7 = .ok (.ireturn, 1) := by decide +kernel
theorem dX9_find_0 : decode cX9_find 0 = .ok (.aload_n 0, 1) := by decide +kernel
theorem dX9_find_1 : decode cX9_find 1 = .ok (.getfield 10, 3) := by decide +kernel
theorem dX9_find_4 : decode cX9_find 4 = .ok (.iload_n 1, 1) := by decide +kernel
theorem dX9_find_5 : decode cX9_find 5 = .ok (.invokevirtual 58, 3) := by decide +kernel
theorem dX9_find_8 : decode cX9_find 8 = .ok (.ifCond .eq 15, 3) := by decide +kernel
theorem dX9_find_11 : decode cX9_find 11 = .ok (.aload_n 0, 1) := by decide +kernel
theorem dX9_find_12 : decode cX9_find 12 = .ok (.getfield 10, 3) := by decide +kernel
theorem dX9_find_15 : decode cX9_find 15 = .ok (.iload_n 1, 1) := by decide +kernel
theorem dX9_find_16 : decode cX9_find 16 = .ok (.iload_n 2, 1) := by decide +kernel
theorem dX9_find_17 : decode cX9_find 17 = .ok (.invokevirtual 65, 3) := by decide +kernel
theorem dX9_find_20 : decode cX9_find 20 = .ok (.goto 5, 3) := by decide +kernel
theorem dX9_find_23 : decode cX9_find 23 = .ok (.bipush (-2), 2) := by decide +kernel
theorem dX9_find_25 : decode cX9_find 25 = .ok (.ireturn, 1) := by decide +kernel
theorem dX9_letter_0 : decode cX9_letter 0 = .ok (.aload_n 0, 1) := by decide +kernel
theorem dX9_letter_1 : decode cX9_letter 1 = .ok (.getfield 10, 3) := by decide +kernel
theorem dX9_letter_4 : decode cX9_letter 4 = .ok (.iload_n 1, 1) := by decide +kernel
theorem dX9_letter_5 : decode cX9_letter 5 = .ok (.invokevirtual 72, 3) := by decide +kernel
theorem dX9_letter_8 : decode cX9_letter 8 = .ok (.astore 4, 2) := by decide +kernel
theorem dX9_letter_10 : decode cX9_letter 10 = .ok (.aload 4, 2) := by decide +kernel
theorem dX9_letter_12 : decode cX9_letter 12 = .ok (.ifnull 12, 3) := by decide +kernel
theorem dX9_letter_15 : decode cX9_letter 15 = .ok (.aload 4, 2) := by decide +kernel
theorem dX9_letter_17 : decode cX9_letter 17 = .ok (.iload_n 2, 1) := by decide +kernel
theorem dX9_letter_18 : decode cX9_letter 18 = .ok (.invokevirtual 231, 3) := by decide +kernel
theorem dX9_letter_21 : decode cX9_letter 21 = .ok (.ifCond .ne 5, 3) := by decide +kernel
theorem dX9_letter_24 : decode cX9_letter 24 = .ok (.iconst (-1), 1) := by decide +kernel
theorem dX9_letter_25 : decode cX9_letter 25 = .ok (.ireturn, 1) := by decide +kernel
theorem dX9_letter_26 : decode cX9_letter 26 = .ok (.iload_n 3, 1) := by decide +kernel
theorem dX9_letter_27 : decode cX9_letter 27 = .ok (.iconst (-1), 1) := by decide +kernel
theorem dX9_letter_28 : decode cX9_letter 28 = .ok (.if_icmp .ne 12, 3) := by decide +kernel
theorem dX9_letter_31 : decode cX9_letter 31 = .ok (.aload 4, 2) := by decide +kernel
theorem dX9_letter_33 : decode cX9_letter 33 = .ok (.iload_n 2, 1) := by decide +kernel
theorem dX9_letter_34 : decode cX9_letter 34 = .ok (.invokevirtual 232, 3) := by decide +kernel
theorem dX9_letter_37 : decode cX9_letter 37 = .ok (.goto 10, 3) := by decide +kernel
theorem dX9_letter_40 : decode cX9_letter 40 = .ok (.aload 4, 2) := by decide +kernel
theorem dX9_letter_42 : decode cX9_letter 42 = .ok (.iload_n 2, 1) := by decide +kernel
theorem dX9_letter_43 : decode cX9_letter 43 = .ok (.iload_n 3, 1) := by decide +kernel
theorem dX9_letter_44 : decode cX9_letter 44 = .ok (.invokevirtual 235, 3) := by decide +kernel
theorem dX9_letter_47 : decode cX9_letter 47 = .ok (.ireturn, 1) := by decide +kernel
theorem dX9_set_0 : decode cX9_set 0 = .ok (.aload_n 0, 1) := by decide +kernel
theorem dX9_set_1 : decode cX9_set 1 = .ok (.getfield 19, 3) := by decide +kernel
theorem dX9_set_4 : decode cX9_set 4 = .ok (.iload_n 1, 1) := by decide +kernel
theorem dX9_set_5 : decode cX9_set 5 = .ok (.invokevirtual 147, 3) := by decide +kernel
theorem dX9_set_8 : decode cX9_set 8 = .ok (.astore_n 3, 1) := by decide +kernel
theorem dX9_set_9 : decode cX9_set 9 = .ok (.aload_n 3, 1) := by decide +kernel
theorem dX9_set_10 : decode cX9_set 10 = .ok (.ifnonnull 7, 3) := by decide +kernel
theorem dX9_set_13 : decode cX9_set 13 = .ok (.iconst (-1), 1) := by decide +kernel
theorem dX9_set_14 : decode cX9_set 14 = .ok (.goto 8, 3) := by decide +kernel
theorem dX9_set_17 : decode cX9_set 17 = .ok (.aload_n 3, 1) := by decide +kernel
theorem dX9_set_18 : decode cX9_set 18 = .ok (.iload_n 2, 1) := by decide +kernel
theorem dX9_set_19 : decode cX9_set 19 = .ok (.invokevirtual 237, 3) := by decide +kernel
theorem dX9_set_22 : decode cX9_set 22 = .ok (.ireturn, 1) := by decide +kernel
theorem dX9_count_0 : decode cX9_count 0 = .ok (.iload_n 1, 1) := by decide +kernel
theorem dX9_count_1 : decode cX9_count 1 = .ok (.tableswitch 87 0 5 #[39, 47, 55, 63, 71, 79], 39) := by decide +kernel
theorem dX9_count_40 : decode cX9_count 40 = .ok (.aload_n 0, 1) := by decide +kernel
theorem dX9_count_41 : decode cX9_count 41 = .ok (.getfield 10, 3) := by decide +kernel
theorem dX9_count_44 : decode cX9_count 44 = .ok (.invokevirtual 239, 3) := by decide +kernel
theorem dX9_count_47 : decode cX9_count 47 = .ok (.ireturn, 1) := by decide +kernel
theorem dX9_count_48 : decode cX9_count 48 = .ok (.aload_n 0, 1) := by decide +kernel
theorem dX9_count_49 : decode cX9_count 49 = .ok (.getfield 10, 3) := by decide +kernel
theorem dX9_count_52 : decode cX9_count 52 = .ok (.invokevirtual 242, 3) := by decide +kernel
theorem dX9_count_55 : decode cX9_count 55 = .ok (.ireturn, 1) := by decide +kernel
theorem dX9_count_56 : decode cX9_count 56 = .ok (.aload_n 0, 1) := by decide +kernel
theorem dX9_count_57 : decode cX9_count 57 = .ok (.getfield 19, 3) := by decide +kernel
theorem dX9_count_60 : decode cX9_count 60 = .ok (.invokevirtual 245, 3) := by decide +kernel
theorem dX9_count_63 : decode cX9_count 63 = .ok (.ireturn, 1) := by decide +kernel
theorem dX9_count_64 : decode cX9_count 64 = .ok (.aload_n 0, 1) := by decide +kernel
theorem dX9_count_65 : decode cX9_count 65 = .ok (.getfield 26, 3) := by decide +kernel
theorem dX9_count_68 : decode cX9_count 68 = .ok (.invokevirtual 248, 3) := by decide +kernel
theorem dX9_count_71 : decode cX9_count 71 = .ok (.ireturn, 1) := by decide +kernel
theorem dX9_count_72 : decode cX9_count 72 = .ok (.aload_n 0, 1) := by decide +kernel
theorem dX9_count_73 : decode cX9_count 73 = .ok (.getfield 33, 3) := by decide +kernel
theorem dX9_count_76 : decode cX9_count 76 = .ok (.invokevirtual 109, 3) := by decide +kernel
theorem dX9_count_79 : decode cX9_count 79 = .ok (.ireturn, 1) := by decide +kernel
theorem dX9_count_80 : decode cX9_count 80 = .ok (.aload_n 0, 1) := by decide +kernel
theorem dX9_count_81 : decode cX9_count 81 = .ok (.getfield 44, 3) := by decide +kernel
theorem dX9_count_84 : decode cX9_count 84 = .ok (.invokevirtual 190, 3) := by decide +kernel
theorem dX9_count_87 : decode cX9_count 87 = .ok (.ireturn, 1) := by decide +kernel
theorem dX9_count_88 : decode cX9_count 88 = .ok (.iconst (-1), 1) := by decide +kernel
theorem dX9_count_89 : decode cX9_count 89 = .ok (.ireturn, 1) := by decide +kernel
theorem dX9_fitsArriving_0 : decode cX9_fitsArriving 0 = .ok (.aload_n 0, 1) := by decide +kernel
theorem dX9_fitsArriving_1 : decode cX9_fitsArriving 1 = .ok (.getfield 44, 3) := by decide +kernel
theorem dX9_fitsArriving_4 : decode cX9_fitsArriving 4 = .ok (.invokevirtual 190, 3) := by decide +kernel
theorem dX9_fitsArriving_7 : decode cX9_fitsArriving 7 = .ok (.tableswitch 88 0 3 #[29, 41, 65, 76], 29) := by decide +kernel
theorem dX9_fitsArriving_36 : decode cX9_fitsArriving 36 = .ok (.iload_n 1, 1) := by decide +kernel
theorem dX9_fitsArriving_37 : decode cX9_fitsArriving 37 = .ok (.bipush 69, 2) := by decide +kernel
theorem dX9_fitsArriving_39 : decode cX9_fitsArriving 39 = .ok (.if_icmp .ne 7, 3) := by decide +kernel
theorem dX9_fitsArriving_42 : decode cX9_fitsArriving 42 = .ok (.iconst 1, 1) := by decide +kernel
theorem dX9_fitsArriving_43 : decode cX9_fitsArriving 43 = .ok (.goto 4, 3) := by decide +kernel
theorem dX9_fitsArriving_46 : decode cX9_fitsArriving 46 = .ok (.iconst 0, 1) := by decide +kernel
theorem dX9_fitsArriving_47 : decode cX9_fitsArriving 47 = .ok (.ireturn, 1) := by decide +kernel
theorem dX9_fitsArriving_48 : decode cX9_fitsArriving 48 = .ok (.iload_n 1, 1) := by decide +kernel
theorem dX9_fitsArriving_49 : decode cX9_fitsArriving 49 = .ok (.invokestatic 62, 3) := by decide +kernel
theorem dX9_fitsArriving_52 : decode cX9_fitsArriving 52 = .ok (.ifCond .eq 18, 3) := by decide +kernel
theorem dX9_fitsArriving_55 : decode cX9_fitsArriving 55 = .ok (.aload_n 0, 1) := by decide +kernel
theorem dX9_fitsArriving_56 : decode cX9_fitsArriving 56 = .ok (.getfield 19, 3) := by decide +kernel
theorem dX9_fitsArriving_59 : decode cX9_fitsArriving 59 = .ok (.iload_n 1, 1) := by decide +kernel
theorem dX9_fitsArriving_60 : decode cX9_fitsArriving 60 = .ok (.invokevirtual 249, 3) := by decide +kernel
theorem dX9_fitsArriving_63 : decode cX9_fitsArriving 63 = .ok (.ifCond .eq 7, 3) := by decide +kernel
theorem dX9_fitsArriving_66 : decode cX9_fitsArriving 66 = .ok (.iconst 1, 1) := by decide +kernel
theorem dX9_fitsArriving_67 : decode cX9_fitsArriving 67 = .ok (.goto 4, 3) := by decide +kernel
theorem dX9_fitsArriving_70 : decode cX9_fitsArriving 70 = .ok (.iconst 0, 1) := by decide +kernel
theorem dX9_fitsArriving_71 : decode cX9_fitsArriving 71 = .ok (.ireturn, 1) := by decide +kernel
theorem dX9_fitsArriving_72 : decode cX9_fitsArriving 72 = .ok (.iload_n 1, 1) := by decide +kernel
theorem dX9_fitsArriving_73 : decode cX9_fitsArriving 73 = .ok (.iconst 1, 1) := by decide +kernel
theorem dX9_fitsArriving_74 : decode cX9_fitsArriving 74 = .ok (.if_icmp .gt 7, 3) := by decide +kernel
theorem dX9_fitsArriving_77 : decode cX9_fitsArriving 77 = .ok (.iconst 1, 1) := by decide +kernel
theorem dX9_fitsArriving_78 : decode cX9_fitsArriving 78 = .ok (.goto 4, 3) := by decide +kernel
theorem dX9_fitsArriving_81 : decode cX9_fitsArriving 81 = .ok (.iconst 0, 1) := by decide +kernel
theorem dX9_fitsArriving_82 : decode cX9_fitsArriving 82 = .ok (.ireturn, 1) := by decide +kernel
theorem dX9_fitsArriving_83 : decode cX9_fitsArriving 83 = .ok (.iload_n 1, 1) := by decide +kernel
theorem dX9_fitsArriving_84 : decode cX9_fitsArriving 84 = .ok (.bipush 60, 2) := by decide +kernel
theorem dX9_fitsArriving_86 : decode cX9_fitsArriving 86 = .ok (.if_icmp .gt 7, 3) := by decide +kernel
theorem dX9_fitsArriving_89 : decode cX9_fitsArriving 89 = .ok (.iconst 1, 1) := by decide +kernel
theorem dX9_fitsArriving_90 : decode cX9_fitsArriving 90 = .ok (.goto 4, 3) := by decide +kernel
theorem dX9_fitsArriving_93 : decode cX9_fitsArriving 93 = .ok (.iconst 0, 1) := by decide +kernel
theorem dX9_fitsArriving_94 : decode cX9_fitsArriving 94 = .ok (.ireturn, 1) := by decide +kernel
theorem dX9_fitsArriving_95 : decode cX9_fitsArriving 95 = .ok (.iconst 1, 1) := by decide +kernel
theorem dX9_fitsArriving_96 : decode cX9_fitsArriving 96 = .ok (.ireturn, 1) := by decide +kernel
theorem dX9_isArrivingWhole_0 : decode cX9_isArrivingWhole 0 = .ok (.aload_n 0, 1) := by decide +kernel
theorem dX9_isArrivingWhole_1 : decode cX9_isArrivingWhole 1 = .ok (.getfield 44, 3) := by decide +kernel
theorem dX9_isArrivingWhole_4 : decode cX9_isArrivingWhole 4 = .ok (.invokevirtual 190, 3) := by decide +kernel
theorem dX9_isArrivingWhole_7 : decode cX9_isArrivingWhole 7 = .ok (.istore_n 1, 1) := by decide +kernel
theorem dX9_isArrivingWhole_8 : decode cX9_isArrivingWhole 8 = .ok (.iload_n 1, 1) := by decide +kernel
theorem dX9_isArrivingWhole_9 : decode cX9_isArrivingWhole 9 = .ok (.iconst 4, 1) := by decide +kernel
theorem dX9_isArrivingWhole_10 : decode cX9_isArrivingWhole 10 = .ok (.if_icmp .lt 23, 3) := by decide +kernel
theorem dX9_isArrivingWhole_13 : decode cX9_isArrivingWhole 13 = .ok (.iload_n 1, 1) := by decide +kernel
theorem dX9_isArrivingWhole_14 : decode cX9_isArrivingWhole 14 = .ok (.iconst 4, 1) := by decide +kernel
theorem dX9_isArrivingWhole_15 : decode cX9_isArrivingWhole 15 = .ok (.iconst 4, 1) := by decide +kernel
theorem dX9_isArrivingWhole_16 : decode cX9_isArrivingWhole 16 = .ok (.aload_n 0, 1) := by decide +kernel
theorem dX9_isArrivingWhole_17 : decode cX9_isArrivingWhole 17 = .ok (.getfield 44, 3) := by decide +kernel
theorem dX9_isArrivingWhole_20 : decode cX9_isArrivingWhole 20 = .ok (.iconst 3, 1) := by decide +kernel
theorem dX9_isArrivingWhole_21 : decode cX9_isArrivingWhole 21 = .ok (.invokevirtual 252, 3) := by decide +kernel
theorem dX9_isArrivingWhole_24 : decode cX9_isArrivingWhole 24 = .ok (.imul, 1) := by decide +kernel
theorem dX9_isArrivingWhole_25 : decode cX9_isArrivingWhole 25 = .ok (.iadd, 1) := by decide +kernel
theorem dX9_isArrivingWhole_26 : decode cX9_isArrivingWhole 26 = .ok (.if_icmp .lt 7, 3) := by decide +kernel
theorem dX9_isArrivingWhole_29 : decode cX9_isArrivingWhole 29 = .ok (.iconst 1, 1) := by decide +kernel
theorem dX9_isArrivingWhole_30 : decode cX9_isArrivingWhole 30 = .ok (.goto 4, 3) := by decide +kernel
theorem dX9_isArrivingWhole_33 : decode cX9_isArrivingWhole 33 = .ok (.iconst 0, 1) := by decide +kernel
theorem dX9_isArrivingWhole_34 : decode cX9_isArrivingWhole 34 = .ok (.ireturn, 1) := by decide +kernel
theorem dX9_isName_0 : decode cX9_isName 0 = .ok (.iload_n 0, 1) := by decide +kernel
theorem dX9_isName_1 : decode cX9_isName 1 = .ok (.ifCond .lt 13, 3) := by decide +kernel
theorem dX9_isName_4 : decode cX9_isName 4 = .ok (.iload_n 0, 1) := by decide +kernel
theorem dX9_isName_5 : decode cX9_isName 5 = .ok (.bipush 100, 2) := by decide +kernel
theorem dX9_isName_7 : decode cX9_isName 7 = .ok (.if_icmp .ge 7, 3) := by decide +kernel
theorem dX9_isName_10 : decode cX9_isName 10 = .ok (.iconst 1, 1) := by decide +kernel
theorem dX9_isName_11 : decode cX9_isName 11 = .ok (.goto 4, 3) := by decide +kernel
theorem dX9_isName_14 : decode cX9_isName 14 = .ok (.iconst 0, 1) := by decide +kernel
theorem dX9_isName_15 : decode cX9_isName 15 = .ok (.ireturn, 1) := by decide +kernel
theorem dX9_isLineNumber_0 : decode cX9_isLineNumber 0 = .ok (.iload_n 0, 1) := by decide +kernel
theorem dX9_isLineNumber_1 : decode cX9_isLineNumber 1 = .ok (.iconst 1, 1) := by decide +kernel
theorem dX9_isLineNumber_2 : decode cX9_isLineNumber 2 = .ok (.if_icmp .lt 14, 3) := by decide +kernel
theorem dX9_isLineNumber_5 : decode cX9_isLineNumber 5 = .ok (.iload_n 0, 1) := by decide +kernel
theorem dX9_isLineNumber_6 : decode cX9_isLineNumber 6 = .ok (.sipush 9999, 3) := by decide +kernel
theorem dX9_isLineNumber_9 : decode cX9_isLineNumber 9 = .ok (.if_icmp .gt 7, 3) := by decide +kernel
theorem dX9_isLineNumber_12 : decode cX9_isLineNumber 12 = .ok (.iconst 1, 1) := by decide +kernel
theorem dX9_isLineNumber_13 : decode cX9_isLineNumber 13 = .ok (.goto 4, 3) := by decide +kernel
theorem dX9_isLineNumber_16 : decode cX9_isLineNumber 16 = .ok (.iconst 0, 1) := by decide +kernel
theorem dX9_isLineNumber_17 : decode cX9_isLineNumber 17 = .ok (.ireturn, 1) := by decide +kernel
theorem dX9_isSign_0 : decode cX9_isSign 0 = .ok (.iload_n 0, 1) := by decide +kernel
theorem dX9_isSign_1 : decode cX9_isSign 1 = .ok (.bipush 32, 2) := by decide +kernel
theorem dX9_isSign_3 : decode cX9_isSign 3 = .ok (.if_icmp .lt 13, 3) := by decide +kernel
theorem dX9_isSign_6 : decode cX9_isSign 6 = .ok (.iload_n 0, 1) := by decide +kernel
theorem dX9_isSign_7 : decode cX9_isSign 7 = .ok (.bipush 126, 2) := by decide +kernel
theorem dX9_isSign_9 : decode cX9_isSign 9 = .ok (.if_icmp .gt 7, 3) := by decide +kernel
theorem dX9_isSign_12 : decode cX9_isSign 12 = .ok (.iconst 1, 1) := by decide +kernel
theorem dX9_isSign_13 : decode cX9_isSign 13 = .ok (.goto 4, 3) := by decide +kernel
theorem dX9_isSign_16 : decode cX9_isSign 16 = .ok (.iconst 0, 1) := by decide +kernel
theorem dX9_isSign_17 : decode cX9_isSign 17 = .ok (.ireturn, 1) := by decide +kernel
theorem dL_octet_0 : decode cL_octet 0 = .ok (.aload_n 2, 1) := by decide +kernel
theorem dL_octet_1 : decode cL_octet 1 = .ok (.iconst 0, 1) := by decide +kernel
theorem dL_octet_2 : decode cL_octet 2 = .ok (.aload_n 0, 1) := by decide +kernel
theorem dL_octet_3 : decode cL_octet 3 = .ok (.iload_n 1, 1) := by decide +kernel
theorem dL_octet_4 : decode cL_octet 4 = .ok (.invokevirtual 7, 3) := by decide +kernel
theorem dL_octet_7 : decode cL_octet 7 = .ok (.i2l, 1) := by decide +kernel
theorem dL_octet_8 : decode cL_octet 8 = .ok (.lastore, 1) := by decide +kernel
theorem dL_octet_9 : decode cL_octet 9 = .ok (.goto 6, 3) := by decide +kernel
theorem dL_octet_12 : decode cL_octet 12 = .ok (.astore_n 3, 1) := by decide +kernel
theorem dL_octet_13 : decode cL_octet 13 = .ok (.iconst 1, 1) := by decide +kernel
theorem dL_octet_14 : decode cL_octet 14 = .ok (.ireturn, 1) := by decide +kernel
theorem dL_octet_15 : decode cL_octet 15 = .ok (.iconst 0, 1) := by decide +kernel
theorem dL_octet_16 : decode cL_octet 16 = .ok (.ireturn, 1) := by decide +kernel
theorem dL_law_0 : decode cL_law 0 = .ok (.new 8, 3) := by decide +kernel
theorem dL_law_3 : decode cL_law 3 = .ok (.dup, 1) := by decide +kernel
theorem dL_law_4 : decode cL_law 4 = .ok (.invokespecial 15, 3) := by decide +kernel
theorem dL_law_7 : decode cL_law 7 = .ok (.astore_n 1, 1) := by decide +kernel
theorem dL_law_8 : decode cL_law 8 = .ok (.new 16, 3) := by decide +kernel
theorem dL_law_11 : decode cL_law 11 = .ok (.dup, 1) := by decide +kernel
theorem dL_law_12 : decode cL_law 12 = .ok (.invokespecial 18, 3) := by decide +kernel
theorem dL_law_15 : decode cL_law 15 = .ok (.astore_n 2, 1) := by decide +kernel
theorem dL_law_16 : decode cL_law 16 = .ok (.iconst 1, 1) := by decide +kernel
theorem dL_law_17 : decode cL_law 17 = .ok (.newarray .long, 2) := by decide +kernel
theorem dL_law_19 : decode cL_law 19 = .ok (.astore_n 3, 1) := by decide +kernel
theorem dL_law_20 : decode cL_law 20 = .ok (.iconst 0, 1) := by decide +kernel
theorem dL_law_21 : decode cL_law 21 = .ok (.istore 4, 2) := by decide +kernel
theorem dL_law_23 : decode cL_law 23 = .ok (.iload 4, 2) := by decide +kernel
theorem dL_law_25 : decode cL_law 25 = .ok (.aload_n 0, 1) := by decide +kernel
theorem dL_law_26 : decode cL_law 26 = .ok (.arraylength, 1) := by decide +kernel
theorem dL_law_27 : decode cL_law 27 = .ok (.iconst 5, 1) := by decide +kernel
theorem dL_law_28 : decode cL_law 28 = .ok (.isub, 1) := by decide +kernel
theorem dL_law_29 : decode cL_law 29 = .ok (.if_icmp .gt 1182, 3) := by decide +kernel
theorem dL_law_32 : decode cL_law 32 = .ok (.aload_n 0, 1) := by decide +kernel
theorem dL_law_33 : decode cL_law 33 = .ok (.iload 4, 2) := by decide +kernel
theorem dL_law_35 : decode cL_law 35 = .ok (.iaload, 1) := by decide +kernel
theorem dL_law_36 : decode cL_law 36 = .ok (.bipush 31, 2) := by decide +kernel
theorem dL_law_38 : decode cL_law 38 = .ok (.iand, 1) := by decide +kernel
theorem dL_law_39 : decode cL_law 39 = .ok (.tableswitch 1166 0 27 #[125, 166, 203, 250, 311, 372, 409, 446, 471, 506, 531, 584, 621, 646, 683, 720, 781, 806, 831, 887, 914, 951, 992, 1005, 1018, 1055, 1104, 1141], 125) := by decide +kernel
theorem dL_law_164 : decode cL_law 164 = .ok (.aload_n 1, 1) := by decide +kernel
theorem dL_law_165 : decode cL_law 165 = .ok (.aload_n 0, 1) := by decide +kernel
theorem dL_law_166 : decode cL_law 166 = .ok (.iload 4, 2) := by decide +kernel
theorem dL_law_168 : decode cL_law 168 = .ok (.iconst 1, 1) := by decide +kernel
theorem dL_law_169 : decode cL_law 169 = .ok (.iadd, 1) := by decide +kernel
theorem dL_law_170 : decode cL_law 170 = .ok (.iaload, 1) := by decide +kernel
theorem dL_law_171 : decode cL_law 171 = .ok (.ifCond .eq 7, 3) := by decide +kernel
theorem dL_law_174 : decode cL_law 174 = .ok (.iconst 1, 1) := by decide +kernel
theorem dL_law_175 : decode cL_law 175 = .ok (.goto 4, 3) := by decide +kernel
theorem dL_law_178 : decode cL_law 178 = .ok (.iconst 0, 1) := by decide +kernel
theorem dL_law_179 : decode cL_law 179 = .ok (.invokevirtual 19, 3) := by decide +kernel
theorem dL_law_182 : decode cL_law 182 = .ok (.aload_n 2, 1) := by decide +kernel
theorem dL_law_183 : decode cL_law 183 = .ok (.aload_n 0, 1) := by decide +kernel
theorem dL_law_184 : decode cL_law 184 = .ok (.iload 4, 2) := by decide +kernel
theorem dL_law_186 : decode cL_law 186 = .ok (.iconst 1, 1) := by decide +kernel
theorem dL_law_187 : decode cL_law 187 = .ok (.iadd, 1) := by decide +kernel
theorem dL_law_188 : decode cL_law 188 = .ok (.iaload, 1) := by decide +kernel
theorem dL_law_189 : decode cL_law 189 = .ok (.ifCond .eq 7, 3) := by decide +kernel
theorem dL_law_192 : decode cL_law 192 = .ok (.iconst 1, 1) := by decide +kernel
theorem dL_law_193 : decode cL_law 193 = .ok (.goto 4, 3) := by decide +kernel
theorem dL_law_196 : decode cL_law 196 = .ok (.iconst 0, 1) := by decide +kernel
theorem dL_law_197 : decode cL_law 197 = .ok (.invokevirtual 23, 3) := by decide +kernel
theorem dL_law_200 : decode cL_law 200 = .ok (.if_icmp .eq 1005, 3) := by decide +kernel
theorem dL_law_203 : decode cL_law 203 = .ok (.iconst 0, 1) := by decide +kernel
theorem dL_law_204 : decode cL_law 204 = .ok (.ireturn, 1) := by decide +kernel
theorem dL_law_205 : decode cL_law 205 = .ok (.aload_n 1, 1) := by decide +kernel
theorem dL_law_206 : decode cL_law 206 = .ok (.aload_n 0, 1) := by decide +kernel
theorem dL_law_207 : decode cL_law 207 = .ok (.iload 4, 2) := by decide +kernel
theorem dL_law_209 : decode cL_law 209 = .ok (.iconst 1, 1) := by decide +kernel
theorem dL_law_210 : decode cL_law 210 = .ok (.iadd, 1) := by decide +kernel
theorem dL_law_211 : decode cL_law 211 = .ok (.iaload, 1) := by decide +kernel
theorem dL_law_212 : decode cL_law 212 = .ok (.aload_n 0, 1) := by decide +kernel
theorem dL_law_213 : decode cL_law 213 = .ok (.iload 4, 2) := by decide +kernel
theorem dL_law_215 : decode cL_law 215 = .ok (.iconst 2, 1) := by decide +kernel
theorem dL_law_216 : decode cL_law 216 = .ok (.iadd, 1) := by decide +kernel
theorem dL_law_217 : decode cL_law 217 = .ok (.iaload, 1) := by decide +kernel
theorem dL_law_218 : decode cL_law 218 = .ok (.invokevirtual 24, 3) := by decide +kernel
theorem dL_law_221 : decode cL_law 221 = .ok (.aload_n 2, 1) := by decide +kernel
theorem dL_law_222 : decode cL_law 222 = .ok (.aload_n 0, 1) := by decide +kernel
theorem dL_law_223 : decode cL_law 223 = .ok (.iload 4, 2) := by decide +kernel
theorem dL_law_225 : decode cL_law 225 = .ok (.iconst 1, 1) := by decide +kernel
theorem dL_law_226 : decode cL_law 226 = .ok (.iadd, 1) := by decide +kernel
theorem dL_law_227 : decode cL_law 227 = .ok (.iaload, 1) := by decide +kernel
theorem dL_law_228 : decode cL_law 228 = .ok (.aload_n 0, 1) := by decide +kernel
theorem dL_law_229 : decode cL_law 229 = .ok (.iload 4, 2) := by decide +kernel
theorem dL_law_231 : decode cL_law 231 = .ok (.iconst 2, 1) := by decide +kernel
theorem dL_law_232 : decode cL_law 232 = .ok (.iadd, 1) := by decide +kernel
theorem dL_law_233 : decode cL_law 233 = .ok (.iaload, 1) := by decide +kernel
theorem dL_law_234 : decode cL_law 234 = .ok (.invokevirtual 28, 3) := by decide +kernel
theorem dL_law_237 : decode cL_law 237 = .ok (.if_icmp .eq 968, 3) := by decide +kernel
theorem dL_law_240 : decode cL_law 240 = .ok (.iconst 0, 1) := by decide +kernel
theorem dL_law_241 : decode cL_law 241 = .ok (.ireturn, 1) := by decide +kernel
theorem dL_law_242 : decode cL_law 242 = .ok (.aload_n 1, 1) := by decide +kernel
theorem dL_law_243 : decode cL_law 243 = .ok (.aload_n 0, 1) := by decide +kernel
theorem dL_law_244 : decode cL_law 244 = .ok (.iload 4, 2) := by decide +kernel
theorem dL_law_246 : decode cL_law 246 = .ok (.iconst 1, 1) := by decide +kernel
theorem dL_law_247 : decode cL_law 247 = .ok (.iadd, 1) := by decide +kernel
theorem dL_law_248 : decode cL_law 248 = .ok (.iaload, 1) := by decide +kernel
theorem dL_law_249 : decode cL_law 249 = .ok (.aload_n 0, 1) := by decide +kernel
theorem dL_law_250 : decode cL_law 250 = .ok (.iload 4, 2) := by decide +kernel
theorem dL_law_252 : decode cL_law 252 = .ok (.iconst 2, 1) := by decide +kernel
theorem dL_law_253 : decode cL_law 253 = .ok (.iadd, 1) := by decide +kernel
theorem dL_law_254 : decode cL_law 254 = .ok (.iaload, 1) := by decide +kernel
theorem dL_law_255 : decode cL_law 255 = .ok (.aload_n 0, 1) := by decide +kernel
theorem dL_law_256 : decode cL_law 256 = .ok (.iload 4, 2) := by decide +kernel
theorem dL_law_258 : decode cL_law 258 = .ok (.iconst 3, 1) := by decide +kernel
theorem dL_law_259 : decode cL_law 259 = .ok (.iadd, 1) := by decide +kernel
theorem dL_law_260 : decode cL_law 260 = .ok (.iaload, 1) := by decide +kernel
theorem dL_law_261 : decode cL_law 261 = .ok (.invokevirtual 29, 3) := by decide +kernel
theorem dL_law_264 : decode cL_law 264 = .ok (.aload_n 2, 1) := by decide +kernel
theorem dL_law_265 : decode cL_law 265 = .ok (.aload_n 0, 1) := by decide +kernel
theorem dL_law_266 : decode cL_law 266 = .ok (.iload 4, 2) := by decide +kernel
theorem dL_law_268 : decode cL_law 268 = .ok (.iconst 1, 1) := by decide +kernel
theorem dL_law_269 : decode cL_law 269 = .ok (.iadd, 1) := by decide +kernel
theorem dL_law_270 : decode cL_law 270 = .ok (.iaload, 1) := by decide +kernel
theorem dL_law_271 : decode cL_law 271 = .ok (.aload_n 0, 1) := by decide +kernel
theorem dL_law_272 : decode cL_law 272 = .ok (.iload 4, 2) := by decide +kernel
theorem dL_law_274 : decode cL_law 274 = .ok (.iconst 2, 1) := by decide +kernel
theorem dL_law_275 : decode cL_law 275 = .ok (.iadd, 1) := by decide +kernel
theorem dL_law_276 : decode cL_law 276 = .ok (.iaload, 1) := by decide +kernel
theorem dL_law_277 : decode cL_law 277 = .ok (.aload_n 0, 1) := by decide +kernel
theorem dL_law_278 : decode cL_law 278 = .ok (.iload 4, 2) := by decide +kernel
theorem dL_law_280 : decode cL_law 280 = .ok (.iconst 3, 1) := by decide +kernel
theorem dL_law_281 : decode cL_law 281 = .ok (.iadd, 1) := by decide +kernel
theorem dL_law_282 : decode cL_law 282 = .ok (.iaload, 1) := by decide +kernel
theorem dL_law_283 : decode cL_law 283 = .ok (.invokevirtual 33, 3) := by decide +kernel
theorem dL_law_286 : decode cL_law 286 = .ok (.goto 919, 3) := by decide +kernel
theorem dL_law_289 : decode cL_law 289 = .ok (.aload_n 1, 1) := by decide +kernel
theorem dL_law_290 : decode cL_law 290 = .ok (.aload_n 0, 1) := by decide +kernel
theorem dL_law_291 : decode cL_law 291 = .ok (.iload 4, 2) := by decide +kernel
theorem dL_law_293 : decode cL_law 293 = .ok (.iconst 1, 1) := by decide +kernel
theorem dL_law_294 : decode cL_law 294 = .ok (.iadd, 1) := by decide +kernel
theorem dL_law_295 : decode cL_law 295 = .ok (.iaload, 1) := by decide +kernel
theorem dL_law_296 : decode cL_law 296 = .ok (.aload_n 0, 1) := by decide +kernel
theorem dL_law_297 : decode cL_law 297 = .ok (.iload 4, 2) := by decide +kernel
theorem dL_law_299 : decode cL_law 299 = .ok (.iconst 2, 1) := by decide +kernel
theorem dL_law_300 : decode cL_law 300 = .ok (.iadd, 1) := by decide +kernel
theorem dL_law_301 : decode cL_law 301 = .ok (.iaload, 1) := by decide +kernel
theorem dL_law_302 : decode cL_law 302 = .ok (.aload_n 0, 1) := by decide +kernel
theorem dL_law_303 : decode cL_law 303 = .ok (.iload 4, 2) := by decide +kernel
theorem dL_law_305 : decode cL_law 305 = .ok (.iconst 3, 1) := by decide +kernel
theorem dL_law_306 : decode cL_law 306 = .ok (.iadd, 1) := by decide +kernel
theorem dL_law_307 : decode cL_law 307 = .ok (.iaload, 1) := by decide +kernel
theorem dL_law_308 : decode cL_law 308 = .ok (.aload_n 0, 1) := by decide +kernel
theorem dL_law_309 : decode cL_law 309 = .ok (.iload 4, 2) := by decide +kernel
theorem dL_law_311 : decode cL_law 311 = .ok (.iconst 4, 1) := by decide +kernel
theorem dL_law_312 : decode cL_law 312 = .ok (.iadd, 1) := by decide +kernel
theorem dL_law_313 : decode cL_law 313 = .ok (.iaload, 1) := by decide +kernel
theorem dL_law_314 : decode cL_law 314 = .ok (.invokevirtual 34, 3) := by decide +kernel
theorem dL_law_317 : decode cL_law 317 = .ok (.aload_n 2, 1) := by decide +kernel
theorem dL_law_318 : decode cL_law 318 = .ok (.aload_n 0, 1) := by decide +kernel
theorem dL_law_319 : decode cL_law 319 = .ok (.iload 4, 2) := by decide +kernel
theorem dL_law_321 : decode cL_law 321 = .ok (.iconst 1, 1) := by decide +kernel
theorem dL_law_322 : decode cL_law 322 = .ok (.iadd, 1) := by decide +kernel
theorem dL_law_323 : decode cL_law 323 = .ok (.iaload, 1) := by decide +kernel
theorem dL_law_324 : decode cL_law 324 = .ok (.aload_n 0, 1) := by decide +kernel
theorem dL_law_325 : decode cL_law 325 = .ok (.iload 4, 2) := by decide +kernel
theorem dL_law_327 : decode cL_law 327 = .ok (.iconst 2, 1) := by decide +kernel
theorem dL_law_328 : decode cL_law 328 = .ok (.iadd, 1) := by decide +kernel
theorem dL_law_329 : decode cL_law 329 = .ok (.iaload, 1) := by decide +kernel
theorem dL_law_330 : decode cL_law 330 = .ok (.aload_n 0, 1) := by decide +kernel
theorem dL_law_331 : decode cL_law 331 = .ok (.iload 4, 2) := by decide +kernel
theorem dL_law_333 : decode cL_law 333 = .ok (.iconst 3, 1) := by decide +kernel
theorem dL_law_334 : decode cL_law 334 = .ok (.iadd, 1) := by decide +kernel
theorem dL_law_335 : decode cL_law 335 = .ok (.iaload, 1) := by decide +kernel
theorem dL_law_336 : decode cL_law 336 = .ok (.aload_n 0, 1) := by decide +kernel
theorem dL_law_337 : decode cL_law 337 = .ok (.iload 4, 2) := by decide +kernel
theorem dL_law_339 : decode cL_law 339 = .ok (.iconst 4, 1) := by decide +kernel
theorem dL_law_340 : decode cL_law 340 = .ok (.iadd, 1) := by decide +kernel
theorem dL_law_341 : decode cL_law 341 = .ok (.iaload, 1) := by decide +kernel
theorem dL_law_342 : decode cL_law 342 = .ok (.invokevirtual 38, 3) := by decide +kernel
theorem dL_law_345 : decode cL_law 345 = .ok (.if_icmp .eq 860, 3) := by decide +kernel
theorem dL_law_348 : decode cL_law 348 = .ok (.iconst 0, 1) := by decide +kernel
theorem dL_law_349 : decode cL_law 349 = .ok (.ireturn, 1) := by decide +kernel
theorem dL_law_350 : decode cL_law 350 = .ok (.aload_n 1, 1) := by decide +kernel
theorem dL_law_351 : decode cL_law 351 = .ok (.aload_n 0, 1) := by decide +kernel
theorem dL_law_352 : decode cL_law 352 = .ok (.iload 4, 2) := by decide +kernel
theorem dL_law_354 : decode cL_law 354 = .ok (.iconst 1, 1) := by decide +kernel
theorem dL_law_355 : decode cL_law 355 = .ok (.iadd, 1) := by decide +kernel
theorem dL_law_356 : decode cL_law 356 = .ok (.iaload, 1) := by decide +kernel
theorem dL_law_357 : decode cL_law 357 = .ok (.aload_n 0, 1) := by decide +kernel
theorem dL_law_358 : decode cL_law 358 = .ok (.iload 4, 2) := by decide +kernel
theorem dL_law_360 : decode cL_law 360 = .ok (.iconst 2, 1) := by decide +kernel
theorem dL_law_361 : decode cL_law 361 = .ok (.iadd, 1) := by decide +kernel
theorem dL_law_362 : decode cL_law 362 = .ok (.iaload, 1) := by decide +kernel
theorem dL_law_363 : decode cL_law 363 = .ok (.aload_n 0, 1) := by decide +kernel
theorem dL_law_364 : decode cL_law 364 = .ok (.iload 4, 2) := by decide +kernel
theorem dL_law_366 : decode cL_law 366 = .ok (.iconst 3, 1) := by decide +kernel
theorem dL_law_367 : decode cL_law 367 = .ok (.iadd, 1) := by decide +kernel
theorem dL_law_368 : decode cL_law 368 = .ok (.iaload, 1) := by decide +kernel
theorem dL_law_369 : decode cL_law 369 = .ok (.aload_n 0, 1) := by decide +kernel
theorem dL_law_370 : decode cL_law 370 = .ok (.iload 4, 2) := by decide +kernel
theorem dL_law_372 : decode cL_law 372 = .ok (.iconst 4, 1) := by decide +kernel
theorem dL_law_373 : decode cL_law 373 = .ok (.iadd, 1) := by decide +kernel
theorem dL_law_374 : decode cL_law 374 = .ok (.iaload, 1) := by decide +kernel
theorem dL_law_375 : decode cL_law 375 = .ok (.invokevirtual 39, 3) := by decide +kernel
theorem dL_law_378 : decode cL_law 378 = .ok (.aload_n 2, 1) := by decide +kernel
theorem dL_law_379 : decode cL_law 379 = .ok (.aload_n 0, 1) := by decide +kernel
theorem dL_law_380 : decode cL_law 380 = .ok (.iload 4, 2) := by decide +kernel
theorem dL_law_382 : decode cL_law 382 = .ok (.iconst 1, 1) := by decide +kernel
theorem dL_law_383 : decode cL_law 383 = .ok (.iadd, 1) := by decide +kernel
theorem dL_law_384 : decode cL_law 384 = .ok (.iaload, 1) := by decide +kernel
theorem dL_law_385 : decode cL_law 385 = .ok (.aload_n 0, 1) := by decide +kernel
theorem dL_law_386 : decode cL_law 386 = .ok (.iload 4, 2) := by decide +kernel
theorem dL_law_388 : decode cL_law 388 = .ok (.iconst 2, 1) := by decide +kernel
theorem dL_law_389 : decode cL_law 389 = .ok (.iadd, 1) := by decide +kernel
theorem dL_law_390 : decode cL_law 390 = .ok (.iaload, 1) := by decide +kernel
theorem dL_law_391 : decode cL_law 391 = .ok (.aload_n 0, 1) := by decide +kernel
theorem dL_law_392 : decode cL_law 392 = .ok (.iload 4, 2) := by decide +kernel
theorem dL_law_394 : decode cL_law 394 = .ok (.iconst 3, 1) := by decide +kernel
theorem dL_law_395 : decode cL_law 395 = .ok (.iadd, 1) := by decide +kernel
theorem dL_law_396 : decode cL_law 396 = .ok (.iaload, 1) := by decide +kernel
theorem dL_law_397 : decode cL_law 397 = .ok (.aload_n 0, 1) := by decide +kernel
theorem dL_law_398 : decode cL_law 398 = .ok (.iload 4, 2) := by decide +kernel
theorem dL_law_400 : decode cL_law 400 = .ok (.iconst 4, 1) := by decide +kernel
theorem dL_law_401 : decode cL_law 401 = .ok (.iadd, 1) := by decide +kernel
theorem dL_law_402 : decode cL_law 402 = .ok (.iaload, 1) := by decide +kernel
theorem dL_law_403 : decode cL_law 403 = .ok (.invokevirtual 42, 3) := by decide +kernel
theorem dL_law_406 : decode cL_law 406 = .ok (.if_icmp .eq 799, 3) := by decide +kernel
theorem dL_law_409 : decode cL_law 409 = .ok (.iconst 0, 1) := by decide +kernel
theorem dL_law_410 : decode cL_law 410 = .ok (.ireturn, 1) := by decide +kernel
theorem dL_law_411 : decode cL_law 411 = .ok (.aload_n 1, 1) := by decide +kernel
theorem dL_law_412 : decode cL_law 412 = .ok (.aload_n 0, 1) := by decide +kernel
theorem dL_law_413 : decode cL_law 413 = .ok (.iload 4, 2) := by decide +kernel
theorem dL_law_415 : decode cL_law 415 = .ok (.iconst 1, 1) := by decide +kernel
theorem dL_law_416 : decode cL_law 416 = .ok (.iadd, 1) := by decide +kernel
theorem dL_law_417 : decode cL_law 417 = .ok (.iaload, 1) := by decide +kernel
theorem dL_law_418 : decode cL_law 418 = .ok (.aload_n 0, 1) := by decide +kernel
theorem dL_law_419 : decode cL_law 419 = .ok (.iload 4, 2) := by decide +kernel
theorem dL_law_421 : decode cL_law 421 = .ok (.iconst 2, 1) := by decide +kernel
theorem dL_law_422 : decode cL_law 422 = .ok (.iadd, 1) := by decide +kernel
theorem dL_law_423 : decode cL_law 423 = .ok (.iaload, 1) := by decide +kernel
theorem dL_law_424 : decode cL_law 424 = .ok (.invokevirtual 43, 3) := by decide +kernel
theorem dL_law_427 : decode cL_law 427 = .ok (.aload_n 2, 1) := by decide +kernel
theorem dL_law_428 : decode cL_law 428 = .ok (.aload_n 0, 1) := by decide +kernel
theorem dL_law_429 : decode cL_law 429 = .ok (.iload 4, 2) := by decide +kernel
theorem dL_law_431 : decode cL_law 431 = .ok (.iconst 1, 1) := by decide +kernel
theorem dL_law_432 : decode cL_law 432 = .ok (.iadd, 1) := by decide +kernel
theorem dL_law_433 : decode cL_law 433 = .ok (.iaload, 1) := by decide +kernel
theorem dL_law_434 : decode cL_law 434 = .ok (.aload_n 0, 1) := by decide +kernel
theorem dL_law_435 : decode cL_law 435 = .ok (.iload 4, 2) := by decide +kernel
theorem dL_law_437 : decode cL_law 437 = .ok (.iconst 2, 1) := by decide +kernel
theorem dL_law_438 : decode cL_law 438 = .ok (.iadd, 1) := by decide +kernel
theorem dL_law_439 : decode cL_law 439 = .ok (.iaload, 1) := by decide +kernel
theorem dL_law_440 : decode cL_law 440 = .ok (.invokevirtual 46, 3) := by decide +kernel
theorem dL_law_443 : decode cL_law 443 = .ok (.if_icmp .eq 762, 3) := by decide +kernel
theorem dL_law_446 : decode cL_law 446 = .ok (.iconst 0, 1) := by decide +kernel
theorem dL_law_447 : decode cL_law 447 = .ok (.ireturn, 1) := by decide +kernel
theorem dL_law_448 : decode cL_law 448 = .ok (.aload_n 1, 1) := by decide +kernel
theorem dL_law_449 : decode cL_law 449 = .ok (.aload_n 0, 1) := by decide +kernel
theorem dL_law_450 : decode cL_law 450 = .ok (.iload 4, 2) := by decide +kernel
theorem dL_law_452 : decode cL_law 452 = .ok (.iconst 1, 1) := by decide +kernel
theorem dL_law_453 : decode cL_law 453 = .ok (.iadd, 1) := by decide +kernel
theorem dL_law_454 : decode cL_law 454 = .ok (.iaload, 1) := by decide +kernel
theorem dL_law_455 : decode cL_law 455 = .ok (.aload_n 0, 1) := by decide +kernel
theorem dL_law_456 : decode cL_law 456 = .ok (.iload 4, 2) := by decide +kernel
theorem dL_law_458 : decode cL_law 458 = .ok (.iconst 2, 1) := by decide +kernel
theorem dL_law_459 : decode cL_law 459 = .ok (.iadd, 1) := by decide +kernel
theorem dL_law_460 : decode cL_law 460 = .ok (.iaload, 1) := by decide +kernel
theorem dL_law_461 : decode cL_law 461 = .ok (.invokevirtual 47, 3) := by decide +kernel
theorem dL_law_464 : decode cL_law 464 = .ok (.aload_n 2, 1) := by decide +kernel
theorem dL_law_465 : decode cL_law 465 = .ok (.aload_n 0, 1) := by decide +kernel
theorem dL_law_466 : decode cL_law 466 = .ok (.iload 4, 2) := by decide +kernel
theorem dL_law_468 : decode cL_law 468 = .ok (.iconst 1, 1) := by decide +kernel
theorem dL_law_469 : decode cL_law 469 = .ok (.iadd, 1) := by decide +kernel
theorem dL_law_470 : decode cL_law 470 = .ok (.iaload, 1) := by decide +kernel
theorem dL_law_471 : decode cL_law 471 = .ok (.aload_n 0, 1) := by decide +kernel
theorem dL_law_472 : decode cL_law 472 = .ok (.iload 4, 2) := by decide +kernel
theorem dL_law_474 : decode cL_law 474 = .ok (.iconst 2, 1) := by decide +kernel
theorem dL_law_475 : decode cL_law 475 = .ok (.iadd, 1) := by decide +kernel
theorem dL_law_476 : decode cL_law 476 = .ok (.iaload, 1) := by decide +kernel
theorem dL_law_477 : decode cL_law 477 = .ok (.invokevirtual 50, 3) := by decide +kernel
theorem dL_law_480 : decode cL_law 480 = .ok (.if_icmp .eq 725, 3) := by decide +kernel
theorem dL_law_483 : decode cL_law 483 = .ok (.iconst 0, 1) := by decide +kernel
theorem dL_law_484 : decode cL_law 484 = .ok (.ireturn, 1) := by decide +kernel
theorem dL_law_485 : decode cL_law 485 = .ok (.aload_n 1, 1) := by decide +kernel
theorem dL_law_486 : decode cL_law 486 = .ok (.aload_n 0, 1) := by decide +kernel
theorem dL_law_487 : decode cL_law 487 = .ok (.iload 4, 2) := by decide +kernel
theorem dL_law_489 : decode cL_law 489 = .ok (.iconst 1, 1) := by decide +kernel
theorem dL_law_490 : decode cL_law 490 = .ok (.iadd, 1) := by decide +kernel
theorem dL_law_491 : decode cL_law 491 = .ok (.iaload, 1) := by decide +kernel
theorem dL_law_492 : decode cL_law 492 = .ok (.invokevirtual 51, 3) := by decide +kernel
theorem dL_law_495 : decode cL_law 495 = .ok (.aload_n 2, 1) := by decide +kernel
theorem dL_law_496 : decode cL_law 496 = .ok (.aload_n 0, 1) := by decide +kernel
theorem dL_law_497 : decode cL_law 497 = .ok (.iload 4, 2) := by decide +kernel
theorem dL_law_499 : decode cL_law 499 = .ok (.iconst 1, 1) := by decide +kernel
theorem dL_law_500 : decode cL_law 500 = .ok (.iadd, 1) := by decide +kernel
theorem dL_law_501 : decode cL_law 501 = .ok (.iaload, 1) := by decide +kernel
theorem dL_law_502 : decode cL_law 502 = .ok (.invokevirtual 55, 3) := by decide +kernel
theorem dL_law_505 : decode cL_law 505 = .ok (.if_icmp .eq 700, 3) := by decide +kernel
theorem dL_law_508 : decode cL_law 508 = .ok (.iconst 0, 1) := by decide +kernel
theorem dL_law_509 : decode cL_law 509 = .ok (.ireturn, 1) := by decide +kernel
theorem dL_law_510 : decode cL_law 510 = .ok (.aload_n 1, 1) := by decide +kernel
theorem dL_law_511 : decode cL_law 511 = .ok (.aload_n 0, 1) := by decide +kernel
theorem dL_law_512 : decode cL_law 512 = .ok (.iload 4, 2) := by decide +kernel
theorem dL_law_514 : decode cL_law 514 = .ok (.iconst 1, 1) := by decide +kernel
theorem dL_law_515 : decode cL_law 515 = .ok (.iadd, 1) := by decide +kernel
theorem dL_law_516 : decode cL_law 516 = .ok (.iaload, 1) := by decide +kernel
theorem dL_law_517 : decode cL_law 517 = .ok (.aload_n 0, 1) := by decide +kernel
theorem dL_law_518 : decode cL_law 518 = .ok (.iload 4, 2) := by decide +kernel
theorem dL_law_520 : decode cL_law 520 = .ok (.iconst 2, 1) := by decide +kernel
theorem dL_law_521 : decode cL_law 521 = .ok (.iadd, 1) := by decide +kernel
theorem dL_law_522 : decode cL_law 522 = .ok (.iaload, 1) := by decide +kernel
theorem dL_law_523 : decode cL_law 523 = .ok (.invokevirtual 56, 3) := by decide +kernel
theorem dL_law_526 : decode cL_law 526 = .ok (.aload_n 2, 1) := by decide +kernel
theorem dL_law_527 : decode cL_law 527 = .ok (.aload_n 0, 1) := by decide +kernel
theorem dL_law_528 : decode cL_law 528 = .ok (.iload 4, 2) := by decide +kernel
theorem dL_law_530 : decode cL_law 530 = .ok (.iconst 1, 1) := by decide +kernel
theorem dL_law_531 : decode cL_law 531 = .ok (.iadd, 1) := by decide +kernel
theorem dL_law_532 : decode cL_law 532 = .ok (.iaload, 1) := by decide +kernel
theorem dL_law_533 : decode cL_law 533 = .ok (.aload_n 0, 1) := by decide +kernel
theorem dL_law_534 : decode cL_law 534 = .ok (.iload 4, 2) := by decide +kernel
theorem dL_law_536 : decode cL_law 536 = .ok (.iconst 2, 1) := by decide +kernel
theorem dL_law_537 : decode cL_law 537 = .ok (.iadd, 1) := by decide +kernel
theorem dL_law_538 : decode cL_law 538 = .ok (.iaload, 1) := by decide +kernel
theorem dL_law_539 : decode cL_law 539 = .ok (.invokevirtual 60, 3) := by decide +kernel
theorem dL_law_542 : decode cL_law 542 = .ok (.goto 663, 3) := by decide +kernel
theorem dL_law_545 : decode cL_law 545 = .ok (.aload_n 1, 1) := by decide +kernel
theorem dL_law_546 : decode cL_law 546 = .ok (.aload_n 0, 1) := by decide +kernel
theorem dL_law_547 : decode cL_law 547 = .ok (.iload 4, 2) := by decide +kernel
theorem dL_law_549 : decode cL_law 549 = .ok (.iconst 1, 1) := by decide +kernel
theorem dL_law_550 : decode cL_law 550 = .ok (.iadd, 1) := by decide +kernel
theorem dL_law_551 : decode cL_law 551 = .ok (.iaload, 1) := by decide +kernel
theorem dL_law_552 : decode cL_law 552 = .ok (.invokevirtual 61, 3) := by decide +kernel
theorem dL_law_555 : decode cL_law 555 = .ok (.aload_n 2, 1) := by decide +kernel
theorem dL_law_556 : decode cL_law 556 = .ok (.aload_n 0, 1) := by decide +kernel
theorem dL_law_557 : decode cL_law 557 = .ok (.iload 4, 2) := by decide +kernel
theorem dL_law_559 : decode cL_law 559 = .ok (.iconst 1, 1) := by decide +kernel
theorem dL_law_560 : decode cL_law 560 = .ok (.iadd, 1) := by decide +kernel
theorem dL_law_561 : decode cL_law 561 = .ok (.iaload, 1) := by decide +kernel
theorem dL_law_562 : decode cL_law 562 = .ok (.invokevirtual 64, 3) := by decide +kernel
theorem dL_law_565 : decode cL_law 565 = .ok (.if_icmp .eq 640, 3) := by decide +kernel
theorem dL_law_568 : decode cL_law 568 = .ok (.iconst 0, 1) := by decide +kernel
theorem dL_law_569 : decode cL_law 569 = .ok (.ireturn, 1) := by decide +kernel
theorem dL_law_570 : decode cL_law 570 = .ok (.aload_n 1, 1) := by decide +kernel
theorem dL_law_571 : decode cL_law 571 = .ok (.aload_n 0, 1) := by decide +kernel
theorem dL_law_572 : decode cL_law 572 = .ok (.iload 4, 2) := by decide +kernel
theorem dL_law_574 : decode cL_law 574 = .ok (.iconst 1, 1) := by decide +kernel
theorem dL_law_575 : decode cL_law 575 = .ok (.iadd, 1) := by decide +kernel
theorem dL_law_576 : decode cL_law 576 = .ok (.iaload, 1) := by decide +kernel
theorem dL_law_577 : decode cL_law 577 = .ok (.aload_n 0, 1) := by decide +kernel
theorem dL_law_578 : decode cL_law 578 = .ok (.iload 4, 2) := by decide +kernel
theorem dL_law_580 : decode cL_law 580 = .ok (.iconst 2, 1) := by decide +kernel
theorem dL_law_581 : decode cL_law 581 = .ok (.iadd, 1) := by decide +kernel
theorem dL_law_582 : decode cL_law 582 = .ok (.iaload, 1) := by decide +kernel
theorem dL_law_583 : decode cL_law 583 = .ok (.ifCond .eq 7, 3) := by decide +kernel
theorem dL_law_586 : decode cL_law 586 = .ok (.iconst 1, 1) := by decide +kernel
theorem dL_law_587 : decode cL_law 587 = .ok (.goto 4, 3) := by decide +kernel
theorem dL_law_590 : decode cL_law 590 = .ok (.iconst 0, 1) := by decide +kernel
theorem dL_law_591 : decode cL_law 591 = .ok (.invokevirtual 65, 3) := by decide +kernel
theorem dL_law_594 : decode cL_law 594 = .ok (.aload_n 2, 1) := by decide +kernel
theorem dL_law_595 : decode cL_law 595 = .ok (.aload_n 0, 1) := by decide +kernel
theorem dL_law_596 : decode cL_law 596 = .ok (.iload 4, 2) := by decide +kernel
theorem dL_law_598 : decode cL_law 598 = .ok (.iconst 1, 1) := by decide +kernel
theorem dL_law_599 : decode cL_law 599 = .ok (.iadd, 1) := by decide +kernel
theorem dL_law_600 : decode cL_law 600 = .ok (.iaload, 1) := by decide +kernel
theorem dL_law_601 : decode cL_law 601 = .ok (.aload_n 0, 1) := by decide +kernel
theorem dL_law_602 : decode cL_law 602 = .ok (.iload 4, 2) := by decide +kernel
theorem dL_law_604 : decode cL_law 604 = .ok (.iconst 2, 1) := by decide +kernel
theorem dL_law_605 : decode cL_law 605 = .ok (.iadd, 1) := by decide +kernel
theorem dL_law_606 : decode cL_law 606 = .ok (.iaload, 1) := by decide +kernel
theorem dL_law_607 : decode cL_law 607 = .ok (.ifCond .eq 7, 3) := by decide +kernel
theorem dL_law_610 : decode cL_law 610 = .ok (.iconst 1, 1) := by decide +kernel
theorem dL_law_611 : decode cL_law 611 = .ok (.goto 4, 3) := by decide +kernel
theorem dL_law_614 : decode cL_law 614 = .ok (.iconst 0, 1) := by decide +kernel
theorem dL_law_615 : decode cL_law 615 = .ok (.invokevirtual 69, 3) := by decide +kernel
theorem dL_law_618 : decode cL_law 618 = .ok (.if_icmp .eq 587, 3) := by decide +kernel
theorem dL_law_621 : decode cL_law 621 = .ok (.iconst 0, 1) := by decide +kernel
theorem dL_law_622 : decode cL_law 622 = .ok (.ireturn, 1) := by decide +kernel
theorem dL_law_623 : decode cL_law 623 = .ok (.aload_n 1, 1) := by decide +kernel
theorem dL_law_624 : decode cL_law 624 = .ok (.aload_n 0, 1) := by decide +kernel
theorem dL_law_625 : decode cL_law 625 = .ok (.iload 4, 2) := by decide +kernel
theorem dL_law_627 : decode cL_law 627 = .ok (.iconst 1, 1) := by decide +kernel
theorem dL_law_628 : decode cL_law 628 = .ok (.iadd, 1) := by decide +kernel
theorem dL_law_629 : decode cL_law 629 = .ok (.iaload, 1) := by decide +kernel
theorem dL_law_630 : decode cL_law 630 = .ok (.aload_n 0, 1) := by decide +kernel
theorem dL_law_631 : decode cL_law 631 = .ok (.iload 4, 2) := by decide +kernel
theorem dL_law_633 : decode cL_law 633 = .ok (.iconst 2, 1) := by decide +kernel
theorem dL_law_634 : decode cL_law 634 = .ok (.iadd, 1) := by decide +kernel
theorem dL_law_635 : decode cL_law 635 = .ok (.iaload, 1) := by decide +kernel
theorem dL_law_636 : decode cL_law 636 = .ok (.invokevirtual 70, 3) := by decide +kernel
theorem dL_law_639 : decode cL_law 639 = .ok (.aload_n 2, 1) := by decide +kernel
theorem dL_law_640 : decode cL_law 640 = .ok (.aload_n 0, 1) := by decide +kernel
theorem dL_law_641 : decode cL_law 641 = .ok (.iload 4, 2) := by decide +kernel
theorem dL_law_643 : decode cL_law 643 = .ok (.iconst 1, 1) := by decide +kernel
theorem dL_law_644 : decode cL_law 644 = .ok (.iadd, 1) := by decide +kernel
theorem dL_law_645 : decode cL_law 645 = .ok (.iaload, 1) := by decide +kernel
theorem dL_law_646 : decode cL_law 646 = .ok (.aload_n 0, 1) := by decide +kernel
theorem dL_law_647 : decode cL_law 647 = .ok (.iload 4, 2) := by decide +kernel
theorem dL_law_649 : decode cL_law 649 = .ok (.iconst 2, 1) := by decide +kernel
theorem dL_law_650 : decode cL_law 650 = .ok (.iadd, 1) := by decide +kernel
theorem dL_law_651 : decode cL_law 651 = .ok (.iaload, 1) := by decide +kernel
theorem dL_law_652 : decode cL_law 652 = .ok (.invokevirtual 73, 3) := by decide +kernel
theorem dL_law_655 : decode cL_law 655 = .ok (.if_icmp .eq 550, 3) := by decide +kernel
theorem dL_law_658 : decode cL_law 658 = .ok (.iconst 0, 1) := by decide +kernel
theorem dL_law_659 : decode cL_law 659 = .ok (.ireturn, 1) := by decide +kernel
theorem dL_law_660 : decode cL_law 660 = .ok (.aload_n 1, 1) := by decide +kernel
theorem dL_law_661 : decode cL_law 661 = .ok (.aload_n 0, 1) := by decide +kernel
theorem dL_law_662 : decode cL_law 662 = .ok (.iload 4, 2) := by decide +kernel
theorem dL_law_664 : decode cL_law 664 = .ok (.iconst 1, 1) := by decide +kernel
theorem dL_law_665 : decode cL_law 665 = .ok (.iadd, 1) := by decide +kernel
theorem dL_law_666 : decode cL_law 666 = .ok (.iaload, 1) := by decide +kernel
theorem dL_law_667 : decode cL_law 667 = .ok (.invokevirtual 74, 3) := by decide +kernel
theorem dL_law_670 : decode cL_law 670 = .ok (.aload_n 2, 1) := by decide +kernel
theorem dL_law_671 : decode cL_law 671 = .ok (.aload_n 0, 1) := by decide +kernel
theorem dL_law_672 : decode cL_law 672 = .ok (.iload 4, 2) := by decide +kernel
theorem dL_law_674 : decode cL_law 674 = .ok (.iconst 1, 1) := by decide +kernel
theorem dL_law_675 : decode cL_law 675 = .ok (.iadd, 1) := by decide +kernel
theorem dL_law_676 : decode cL_law 676 = .ok (.iaload, 1) := by decide +kernel
theorem dL_law_677 : decode cL_law 677 = .ok (.invokevirtual 77, 3) := by decide +kernel
theorem dL_law_680 : decode cL_law 680 = .ok (.if_icmp .eq 525, 3) := by decide +kernel
theorem dL_law_683 : decode cL_law 683 = .ok (.iconst 0, 1) := by decide +kernel
theorem dL_law_684 : decode cL_law 684 = .ok (.ireturn, 1) := by decide +kernel
theorem dL_law_685 : decode cL_law 685 = .ok (.aload_n 1, 1) := by decide +kernel
theorem dL_law_686 : decode cL_law 686 = .ok (.aload_n 0, 1) := by decide +kernel
theorem dL_law_687 : decode cL_law 687 = .ok (.iload 4, 2) := by decide +kernel
theorem dL_law_689 : decode cL_law 689 = .ok (.iconst 1, 1) := by decide +kernel
theorem dL_law_690 : decode cL_law 690 = .ok (.iadd, 1) := by decide +kernel
theorem dL_law_691 : decode cL_law 691 = .ok (.iaload, 1) := by decide +kernel
theorem dL_law_692 : decode cL_law 692 = .ok (.aload_n 0, 1) := by decide +kernel
theorem dL_law_693 : decode cL_law 693 = .ok (.iload 4, 2) := by decide +kernel
theorem dL_law_695 : decode cL_law 695 = .ok (.iconst 2, 1) := by decide +kernel
theorem dL_law_696 : decode cL_law 696 = .ok (.iadd, 1) := by decide +kernel
theorem dL_law_697 : decode cL_law 697 = .ok (.iaload, 1) := by decide +kernel
theorem dL_law_698 : decode cL_law 698 = .ok (.invokevirtual 78, 3) := by decide +kernel
theorem dL_law_701 : decode cL_law 701 = .ok (.aload_n 2, 1) := by decide +kernel
theorem dL_law_702 : decode cL_law 702 = .ok (.aload_n 0, 1) := by decide +kernel
theorem dL_law_703 : decode cL_law 703 = .ok (.iload 4, 2) := by decide +kernel
theorem dL_law_705 : decode cL_law 705 = .ok (.iconst 1, 1) := by decide +kernel
theorem dL_law_706 : decode cL_law 706 = .ok (.iadd, 1) := by decide +kernel
theorem dL_law_707 : decode cL_law 707 = .ok (.iaload, 1) := by decide +kernel
theorem dL_law_708 : decode cL_law 708 = .ok (.aload_n 0, 1) := by decide +kernel
theorem dL_law_709 : decode cL_law 709 = .ok (.iload 4, 2) := by decide +kernel
theorem dL_law_711 : decode cL_law 711 = .ok (.iconst 2, 1) := by decide +kernel
theorem dL_law_712 : decode cL_law 712 = .ok (.iadd, 1) := by decide +kernel
theorem dL_law_713 : decode cL_law 713 = .ok (.iaload, 1) := by decide +kernel
theorem dL_law_714 : decode cL_law 714 = .ok (.invokevirtual 81, 3) := by decide +kernel
theorem dL_law_717 : decode cL_law 717 = .ok (.if_icmp .eq 488, 3) := by decide +kernel
theorem dL_law_720 : decode cL_law 720 = .ok (.iconst 0, 1) := by decide +kernel
theorem dL_law_721 : decode cL_law 721 = .ok (.ireturn, 1) := by decide +kernel
theorem dL_law_722 : decode cL_law 722 = .ok (.aload_n 1, 1) := by decide +kernel
theorem dL_law_723 : decode cL_law 723 = .ok (.aload_n 0, 1) := by decide +kernel
theorem dL_law_724 : decode cL_law 724 = .ok (.iload 4, 2) := by decide +kernel
theorem dL_law_726 : decode cL_law 726 = .ok (.iconst 1, 1) := by decide +kernel
theorem dL_law_727 : decode cL_law 727 = .ok (.iadd, 1) := by decide +kernel
theorem dL_law_728 : decode cL_law 728 = .ok (.iaload, 1) := by decide +kernel
theorem dL_law_729 : decode cL_law 729 = .ok (.aload_n 0, 1) := by decide +kernel
theorem dL_law_730 : decode cL_law 730 = .ok (.iload 4, 2) := by decide +kernel
theorem dL_law_732 : decode cL_law 732 = .ok (.iconst 2, 1) := by decide +kernel
theorem dL_law_733 : decode cL_law 733 = .ok (.iadd, 1) := by decide +kernel
theorem dL_law_734 : decode cL_law 734 = .ok (.iaload, 1) := by decide +kernel
theorem dL_law_735 : decode cL_law 735 = .ok (.invokevirtual 82, 3) := by decide +kernel
theorem dL_law_738 : decode cL_law 738 = .ok (.aload_n 2, 1) := by decide +kernel
theorem dL_law_739 : decode cL_law 739 = .ok (.aload_n 0, 1) := by decide +kernel
theorem dL_law_740 : decode cL_law 740 = .ok (.iload 4, 2) := by decide +kernel
theorem dL_law_742 : decode cL_law 742 = .ok (.iconst 1, 1) := by decide +kernel
theorem dL_law_743 : decode cL_law 743 = .ok (.iadd, 1) := by decide +kernel
theorem dL_law_744 : decode cL_law 744 = .ok (.iaload, 1) := by decide +kernel
theorem dL_law_745 : decode cL_law 745 = .ok (.aload_n 0, 1) := by decide +kernel
theorem dL_law_746 : decode cL_law 746 = .ok (.iload 4, 2) := by decide +kernel
theorem dL_law_748 : decode cL_law 748 = .ok (.iconst 2, 1) := by decide +kernel
theorem dL_law_749 : decode cL_law 749 = .ok (.iadd, 1) := by decide +kernel
theorem dL_law_750 : decode cL_law 750 = .ok (.iaload, 1) := by decide +kernel
theorem dL_law_751 : decode cL_law 751 = .ok (.invokevirtual 85, 3) := by decide +kernel
theorem dL_law_754 : decode cL_law 754 = .ok (.if_icmp .eq 451, 3) := by decide +kernel
theorem dL_law_757 : decode cL_law 757 = .ok (.iconst 0, 1) := by decide +kernel
theorem dL_law_758 : decode cL_law 758 = .ok (.ireturn, 1) := by decide +kernel
theorem dL_law_759 : decode cL_law 759 = .ok (.aload_n 1, 1) := by decide +kernel
theorem dL_law_760 : decode cL_law 760 = .ok (.aload_n 0, 1) := by decide +kernel
theorem dL_law_761 : decode cL_law 761 = .ok (.iload 4, 2) := by decide +kernel
theorem dL_law_763 : decode cL_law 763 = .ok (.iconst 1, 1) := by decide +kernel
theorem dL_law_764 : decode cL_law 764 = .ok (.iadd, 1) := by decide +kernel
theorem dL_law_765 : decode cL_law 765 = .ok (.iaload, 1) := by decide +kernel
theorem dL_law_766 : decode cL_law 766 = .ok (.aload_n 0, 1) := by decide +kernel
theorem dL_law_767 : decode cL_law 767 = .ok (.iload 4, 2) := by decide +kernel
theorem dL_law_769 : decode cL_law 769 = .ok (.iconst 2, 1) := by decide +kernel
theorem dL_law_770 : decode cL_law 770 = .ok (.iadd, 1) := by decide +kernel
theorem dL_law_771 : decode cL_law 771 = .ok (.iaload, 1) := by decide +kernel
theorem dL_law_772 : decode cL_law 772 = .ok (.aload_n 0, 1) := by decide +kernel
theorem dL_law_773 : decode cL_law 773 = .ok (.iload 4, 2) := by decide +kernel
theorem dL_law_775 : decode cL_law 775 = .ok (.iconst 3, 1) := by decide +kernel
theorem dL_law_776 : decode cL_law 776 = .ok (.iadd, 1) := by decide +kernel
theorem dL_law_777 : decode cL_law 777 = .ok (.iaload, 1) := by decide +kernel
theorem dL_law_778 : decode cL_law 778 = .ok (.aload_n 0, 1) := by decide +kernel
theorem dL_law_779 : decode cL_law 779 = .ok (.iload 4, 2) := by decide +kernel
theorem dL_law_781 : decode cL_law 781 = .ok (.iconst 4, 1) := by decide +kernel
theorem dL_law_782 : decode cL_law 782 = .ok (.iadd, 1) := by decide +kernel
theorem dL_law_783 : decode cL_law 783 = .ok (.iaload, 1) := by decide +kernel
theorem dL_law_784 : decode cL_law 784 = .ok (.invokevirtual 86, 3) := by decide +kernel
theorem dL_law_787 : decode cL_law 787 = .ok (.aload_n 2, 1) := by decide +kernel
theorem dL_law_788 : decode cL_law 788 = .ok (.aload_n 0, 1) := by decide +kernel
theorem dL_law_789 : decode cL_law 789 = .ok (.iload 4, 2) := by decide +kernel
theorem dL_law_791 : decode cL_law 791 = .ok (.iconst 1, 1) := by decide +kernel
theorem dL_law_792 : decode cL_law 792 = .ok (.iadd, 1) := by decide +kernel
theorem dL_law_793 : decode cL_law 793 = .ok (.iaload, 1) := by decide +kernel
theorem dL_law_794 : decode cL_law 794 = .ok (.aload_n 0, 1) := by decide +kernel
theorem dL_law_795 : decode cL_law 795 = .ok (.iload 4, 2) := by decide +kernel
theorem dL_law_797 : decode cL_law 797 = .ok (.iconst 2, 1) := by decide +kernel
theorem dL_law_798 : decode cL_law 798 = .ok (.iadd, 1) := by decide +kernel
theorem dL_law_799 : decode cL_law 799 = .ok (.iaload, 1) := by decide +kernel
theorem dL_law_800 : decode cL_law 800 = .ok (.aload_n 0, 1) := by decide +kernel
theorem dL_law_801 : decode cL_law 801 = .ok (.iload 4, 2) := by decide +kernel
theorem dL_law_803 : decode cL_law 803 = .ok (.iconst 3, 1) := by decide +kernel
theorem dL_law_804 : decode cL_law 804 = .ok (.iadd, 1) := by decide +kernel
theorem dL_law_805 : decode cL_law 805 = .ok (.iaload, 1) := by decide +kernel
theorem dL_law_806 : decode cL_law 806 = .ok (.aload_n 0, 1) := by decide +kernel
theorem dL_law_807 : decode cL_law 807 = .ok (.iload 4, 2) := by decide +kernel
theorem dL_law_809 : decode cL_law 809 = .ok (.iconst 4, 1) := by decide +kernel
theorem dL_law_810 : decode cL_law 810 = .ok (.iadd, 1) := by decide +kernel
theorem dL_law_811 : decode cL_law 811 = .ok (.iaload, 1) := by decide +kernel
theorem dL_law_812 : decode cL_law 812 = .ok (.invokevirtual 89, 3) := by decide +kernel
theorem dL_law_815 : decode cL_law 815 = .ok (.if_icmp .eq 390, 3) := by decide +kernel
theorem dL_law_818 : decode cL_law 818 = .ok (.iconst 0, 1) := by decide +kernel
theorem dL_law_819 : decode cL_law 819 = .ok (.ireturn, 1) := by decide +kernel
theorem dL_law_820 : decode cL_law 820 = .ok (.aload_n 1, 1) := by decide +kernel
theorem dL_law_821 : decode cL_law 821 = .ok (.aload_n 0, 1) := by decide +kernel
theorem dL_law_822 : decode cL_law 822 = .ok (.iload 4, 2) := by decide +kernel
theorem dL_law_824 : decode cL_law 824 = .ok (.iconst 1, 1) := by decide +kernel
theorem dL_law_825 : decode cL_law 825 = .ok (.iadd, 1) := by decide +kernel
theorem dL_law_826 : decode cL_law 826 = .ok (.iaload, 1) := by decide +kernel
theorem dL_law_827 : decode cL_law 827 = .ok (.invokevirtual 90, 3) := by decide +kernel
theorem dL_law_830 : decode cL_law 830 = .ok (.aload_n 2, 1) := by decide +kernel
theorem dL_law_831 : decode cL_law 831 = .ok (.aload_n 0, 1) := by decide +kernel
theorem dL_law_832 : decode cL_law 832 = .ok (.iload 4, 2) := by decide +kernel
theorem dL_law_834 : decode cL_law 834 = .ok (.iconst 1, 1) := by decide +kernel
theorem dL_law_835 : decode cL_law 835 = .ok (.iadd, 1) := by decide +kernel
theorem dL_law_836 : decode cL_law 836 = .ok (.iaload, 1) := by decide +kernel
theorem dL_law_837 : decode cL_law 837 = .ok (.invokevirtual 93, 3) := by decide +kernel
theorem dL_law_840 : decode cL_law 840 = .ok (.if_icmp .eq 365, 3) := by decide +kernel
theorem dL_law_843 : decode cL_law 843 = .ok (.iconst 0, 1) := by decide +kernel
theorem dL_law_844 : decode cL_law 844 = .ok (.ireturn, 1) := by decide +kernel
theorem dL_law_845 : decode cL_law 845 = .ok (.aload_n 1, 1) := by decide +kernel
theorem dL_law_846 : decode cL_law 846 = .ok (.aload_n 0, 1) := by decide +kernel
theorem dL_law_847 : decode cL_law 847 = .ok (.iload 4, 2) := by decide +kernel
theorem dL_law_849 : decode cL_law 849 = .ok (.iconst 1, 1) := by decide +kernel
theorem dL_law_850 : decode cL_law 850 = .ok (.iadd, 1) := by decide +kernel
theorem dL_law_851 : decode cL_law 851 = .ok (.iaload, 1) := by decide +kernel
theorem dL_law_852 : decode cL_law 852 = .ok (.invokevirtual 94, 3) := by decide +kernel
theorem dL_law_855 : decode cL_law 855 = .ok (.aload_n 2, 1) := by decide +kernel
theorem dL_law_856 : decode cL_law 856 = .ok (.aload_n 0, 1) := by decide +kernel
theorem dL_law_857 : decode cL_law 857 = .ok (.iload 4, 2) := by decide +kernel
theorem dL_law_859 : decode cL_law 859 = .ok (.iconst 1, 1) := by decide +kernel
theorem dL_law_860 : decode cL_law 860 = .ok (.iadd, 1) := by decide +kernel
theorem dL_law_861 : decode cL_law 861 = .ok (.iaload, 1) := by decide +kernel
theorem dL_law_862 : decode cL_law 862 = .ok (.invokevirtual 97, 3) := by decide +kernel
theorem dL_law_865 : decode cL_law 865 = .ok (.if_icmp .eq 340, 3) := by decide +kernel
theorem dL_law_868 : decode cL_law 868 = .ok (.iconst 0, 1) := by decide +kernel
theorem dL_law_869 : decode cL_law 869 = .ok (.ireturn, 1) := by decide +kernel
theorem dL_law_870 : decode cL_law 870 = .ok (.aload_n 1, 1) := by decide +kernel
theorem dL_law_871 : decode cL_law 871 = .ok (.aload_n 0, 1) := by decide +kernel
theorem dL_law_872 : decode cL_law 872 = .ok (.iload 4, 2) := by decide +kernel
theorem dL_law_874 : decode cL_law 874 = .ok (.iconst 1, 1) := by decide +kernel
theorem dL_law_875 : decode cL_law 875 = .ok (.iadd, 1) := by decide +kernel
theorem dL_law_876 : decode cL_law 876 = .ok (.iaload, 1) := by decide +kernel
theorem dL_law_877 : decode cL_law 877 = .ok (.aload_n 3, 1) := by decide +kernel
theorem dL_law_878 : decode cL_law 878 = .ok (.invokestatic 98, 3) := by decide +kernel
theorem dL_law_881 : decode cL_law 881 = .ok (.istore 5, 2) := by decide +kernel
theorem dL_law_883 : decode cL_law 883 = .ok (.aload_n 2, 1) := by decide +kernel
theorem dL_law_884 : decode cL_law 884 = .ok (.aload_n 0, 1) := by decide +kernel
theorem dL_law_885 : decode cL_law 885 = .ok (.iload 4, 2) := by decide +kernel
theorem dL_law_887 : decode cL_law 887 = .ok (.iconst 1, 1) := by decide +kernel
theorem dL_law_888 : decode cL_law 888 = .ok (.iadd, 1) := by decide +kernel
theorem dL_law_889 : decode cL_law 889 = .ok (.iaload, 1) := by decide +kernel
theorem dL_law_890 : decode cL_law 890 = .ok (.invokevirtual 103, 3) := by decide +kernel
theorem dL_law_893 : decode cL_law 893 = .ok (.istore 6, 2) := by decide +kernel
theorem dL_law_895 : decode cL_law 895 = .ok (.aload_n 2, 1) := by decide +kernel
theorem dL_law_896 : decode cL_law 896 = .ok (.invokevirtual 104, 3) := by decide +kernel
theorem dL_law_899 : decode cL_law 899 = .ok (.iload 5, 2) := by decide +kernel
theorem dL_law_901 : decode cL_law 901 = .ok (.if_icmp .eq 5, 3) := by decide +kernel
theorem dL_law_904 : decode cL_law 904 = .ok (.iconst 0, 1) := by decide +kernel
theorem dL_law_905 : decode cL_law 905 = .ok (.ireturn, 1) := by decide +kernel
theorem dL_law_906 : decode cL_law 906 = .ok (.iload 5, 2) := by decide +kernel
theorem dL_law_908 : decode cL_law 908 = .ok (.ifCond .ne 15, 3) := by decide +kernel
theorem dL_law_911 : decode cL_law 911 = .ok (.aload_n 3, 1) := by decide +kernel
theorem dL_law_912 : decode cL_law 912 = .ok (.iconst 0, 1) := by decide +kernel
theorem dL_law_913 : decode cL_law 913 = .ok (.laload, 1) := by decide +kernel
theorem dL_law_914 : decode cL_law 914 = .ok (.iload 6, 2) := by decide +kernel
theorem dL_law_916 : decode cL_law 916 = .ok (.i2l, 1) := by decide +kernel
theorem dL_law_917 : decode cL_law 917 = .ok (.lcmp, 1) := by decide +kernel
theorem dL_law_918 : decode cL_law 918 = .ok (.ifCond .eq 5, 3) := by decide +kernel
theorem dL_law_921 : decode cL_law 921 = .ok (.iconst 0, 1) := by decide +kernel
theorem dL_law_922 : decode cL_law 922 = .ok (.ireturn, 1) := by decide +kernel
theorem dL_law_923 : decode cL_law 923 = .ok (.goto 282, 3) := by decide +kernel
theorem dL_law_926 : decode cL_law 926 = .ok (.aload_n 1, 1) := by decide +kernel
theorem dL_law_927 : decode cL_law 927 = .ok (.aload_n 0, 1) := by decide +kernel
theorem dL_law_928 : decode cL_law 928 = .ok (.iload 4, 2) := by decide +kernel
theorem dL_law_930 : decode cL_law 930 = .ok (.iconst 1, 1) := by decide +kernel
theorem dL_law_931 : decode cL_law 931 = .ok (.iadd, 1) := by decide +kernel
theorem dL_law_932 : decode cL_law 932 = .ok (.iaload, 1) := by decide +kernel
theorem dL_law_933 : decode cL_law 933 = .ok (.i2b, 1) := by decide +kernel
theorem dL_law_934 : decode cL_law 934 = .ok (.invokevirtual 108, 3) := by decide +kernel
theorem dL_law_937 : decode cL_law 937 = .ok (.aload_n 2, 1) := by decide +kernel
theorem dL_law_938 : decode cL_law 938 = .ok (.aload_n 0, 1) := by decide +kernel
theorem dL_law_939 : decode cL_law 939 = .ok (.iload 4, 2) := by decide +kernel
theorem dL_law_941 : decode cL_law 941 = .ok (.iconst 1, 1) := by decide +kernel
theorem dL_law_942 : decode cL_law 942 = .ok (.iadd, 1) := by decide +kernel
theorem dL_law_943 : decode cL_law 943 = .ok (.iaload, 1) := by decide +kernel
theorem dL_law_944 : decode cL_law 944 = .ok (.i2b, 1) := by decide +kernel
theorem dL_law_945 : decode cL_law 945 = .ok (.invokevirtual 112, 3) := by decide +kernel
theorem dL_law_948 : decode cL_law 948 = .ok (.if_icmp .eq 257, 3) := by decide +kernel
theorem dL_law_951 : decode cL_law 951 = .ok (.iconst 0, 1) := by decide +kernel
theorem dL_law_952 : decode cL_law 952 = .ok (.ireturn, 1) := by decide +kernel
theorem dL_law_953 : decode cL_law 953 = .ok (.aload_n 1, 1) := by decide +kernel
theorem dL_law_954 : decode cL_law 954 = .ok (.aload_n 0, 1) := by decide +kernel
theorem dL_law_955 : decode cL_law 955 = .ok (.iload 4, 2) := by decide +kernel
theorem dL_law_957 : decode cL_law 957 = .ok (.iconst 1, 1) := by decide +kernel
theorem dL_law_958 : decode cL_law 958 = .ok (.iadd, 1) := by decide +kernel
theorem dL_law_959 : decode cL_law 959 = .ok (.iaload, 1) := by decide +kernel
theorem dL_law_960 : decode cL_law 960 = .ok (.aload_n 0, 1) := by decide +kernel
theorem dL_law_961 : decode cL_law 961 = .ok (.iload 4, 2) := by decide +kernel
theorem dL_law_963 : decode cL_law 963 = .ok (.iconst 2, 1) := by decide +kernel
theorem dL_law_964 : decode cL_law 964 = .ok (.iadd, 1) := by decide +kernel
theorem dL_law_965 : decode cL_law 965 = .ok (.iaload, 1) := by decide +kernel
theorem dL_law_966 : decode cL_law 966 = .ok (.invokevirtual 113, 3) := by decide +kernel
theorem dL_law_969 : decode cL_law 969 = .ok (.aload_n 2, 1) := by decide +kernel
theorem dL_law_970 : decode cL_law 970 = .ok (.aload_n 0, 1) := by decide +kernel
theorem dL_law_971 : decode cL_law 971 = .ok (.iload 4, 2) := by decide +kernel
theorem dL_law_973 : decode cL_law 973 = .ok (.iconst 1, 1) := by decide +kernel
theorem dL_law_974 : decode cL_law 974 = .ok (.iadd, 1) := by decide +kernel
theorem dL_law_975 : decode cL_law 975 = .ok (.iaload, 1) := by decide +kernel
theorem dL_law_976 : decode cL_law 976 = .ok (.aload_n 0, 1) := by decide +kernel
theorem dL_law_977 : decode cL_law 977 = .ok (.iload 4, 2) := by decide +kernel
theorem dL_law_979 : decode cL_law 979 = .ok (.iconst 2, 1) := by decide +kernel
theorem dL_law_980 : decode cL_law 980 = .ok (.iadd, 1) := by decide +kernel
theorem dL_law_981 : decode cL_law 981 = .ok (.iaload, 1) := by decide +kernel
theorem dL_law_982 : decode cL_law 982 = .ok (.invokevirtual 116, 3) := by decide +kernel
theorem dL_law_985 : decode cL_law 985 = .ok (.if_icmp .eq 220, 3) := by decide +kernel
theorem dL_law_988 : decode cL_law 988 = .ok (.iconst 0, 1) := by decide +kernel
theorem dL_law_989 : decode cL_law 989 = .ok (.ireturn, 1) := by decide +kernel
theorem dL_law_990 : decode cL_law 990 = .ok (.aload_n 1, 1) := by decide +kernel
theorem dL_law_991 : decode cL_law 991 = .ok (.aload_n 0, 1) := by decide +kernel
theorem dL_law_992 : decode cL_law 992 = .ok (.iload 4, 2) := by decide +kernel
theorem dL_law_994 : decode cL_law 994 = .ok (.iconst 1, 1) := by decide +kernel
theorem dL_law_995 : decode cL_law 995 = .ok (.iadd, 1) := by decide +kernel
theorem dL_law_996 : decode cL_law 996 = .ok (.iaload, 1) := by decide +kernel
theorem dL_law_997 : decode cL_law 997 = .ok (.ifCond .eq 7, 3) := by decide +kernel
theorem dL_law_1000 : decode cL_law 1000 = .ok (.iconst 1, 1) := by decide +kernel
theorem dL_law_1001 : decode cL_law 1001 = .ok (.goto 4, 3) := by decide +kernel
theorem dL_law_1004 : decode cL_law 1004 = .ok (.iconst 0, 1) := by decide +kernel
theorem dL_law_1005 : decode cL_law 1005 = .ok (.invokevirtual 117, 3) := by decide +kernel
theorem dL_law_1008 : decode cL_law 1008 = .ok (.aload_n 2, 1) := by decide +kernel
theorem dL_law_1009 : decode cL_law 1009 = .ok (.aload_n 0, 1) := by decide +kernel
theorem dL_law_1010 : decode cL_law 1010 = .ok (.iload 4, 2) := by decide +kernel
theorem dL_law_1012 : decode cL_law 1012 = .ok (.iconst 1, 1) := by decide +kernel
theorem dL_law_1013 : decode cL_law 1013 = .ok (.iadd, 1) := by decide +kernel
theorem dL_law_1014 : decode cL_law 1014 = .ok (.iaload, 1) := by decide +kernel
theorem dL_law_1015 : decode cL_law 1015 = .ok (.ifCond .eq 7, 3) := by decide +kernel
theorem dL_law_1018 : decode cL_law 1018 = .ok (.iconst 1, 1) := by decide +kernel
theorem dL_law_1019 : decode cL_law 1019 = .ok (.goto 4, 3) := by decide +kernel
theorem dL_law_1022 : decode cL_law 1022 = .ok (.iconst 0, 1) := by decide +kernel
theorem dL_law_1023 : decode cL_law 1023 = .ok (.invokevirtual 120, 3) := by decide +kernel
theorem dL_law_1026 : decode cL_law 1026 = .ok (.if_icmp .eq 179, 3) := by decide +kernel
theorem dL_law_1029 : decode cL_law 1029 = .ok (.iconst 0, 1) := by decide +kernel
theorem dL_law_1030 : decode cL_law 1030 = .ok (.ireturn, 1) := by decide +kernel
theorem dL_law_1031 : decode cL_law 1031 = .ok (.aload_n 1, 1) := by decide +kernel
theorem dL_law_1032 : decode cL_law 1032 = .ok (.invokevirtual 121, 3) := by decide +kernel
theorem dL_law_1035 : decode cL_law 1035 = .ok (.aload_n 2, 1) := by decide +kernel
theorem dL_law_1036 : decode cL_law 1036 = .ok (.invokevirtual 124, 3) := by decide +kernel
theorem dL_law_1039 : decode cL_law 1039 = .ok (.if_icmp .eq 166, 3) := by decide +kernel
theorem dL_law_1042 : decode cL_law 1042 = .ok (.iconst 0, 1) := by decide +kernel
theorem dL_law_1043 : decode cL_law 1043 = .ok (.ireturn, 1) := by decide +kernel
theorem dL_law_1044 : decode cL_law 1044 = .ok (.aload_n 1, 1) := by decide +kernel
theorem dL_law_1045 : decode cL_law 1045 = .ok (.invokevirtual 125, 3) := by decide +kernel
theorem dL_law_1048 : decode cL_law 1048 = .ok (.aload_n 2, 1) := by decide +kernel
theorem dL_law_1049 : decode cL_law 1049 = .ok (.invokevirtual 128, 3) := by decide +kernel
theorem dL_law_1052 : decode cL_law 1052 = .ok (.if_icmp .eq 153, 3) := by decide +kernel
theorem dL_law_1055 : decode cL_law 1055 = .ok (.iconst 0, 1) := by decide +kernel
theorem dL_law_1056 : decode cL_law 1056 = .ok (.ireturn, 1) := by decide +kernel
theorem dL_law_1057 : decode cL_law 1057 = .ok (.aload_n 1, 1) := by decide +kernel
theorem dL_law_1058 : decode cL_law 1058 = .ok (.aload_n 0, 1) := by decide +kernel
theorem dL_law_1059 : decode cL_law 1059 = .ok (.iload 4, 2) := by decide +kernel
theorem dL_law_1061 : decode cL_law 1061 = .ok (.iconst 1, 1) := by decide +kernel
theorem dL_law_1062 : decode cL_law 1062 = .ok (.iadd, 1) := by decide +kernel
theorem dL_law_1063 : decode cL_law 1063 = .ok (.iaload, 1) := by decide +kernel
theorem dL_law_1064 : decode cL_law 1064 = .ok (.aload_n 0, 1) := by decide +kernel
theorem dL_law_1065 : decode cL_law 1065 = .ok (.iload 4, 2) := by decide +kernel
theorem dL_law_1067 : decode cL_law 1067 = .ok (.iconst 2, 1) := by decide +kernel
theorem dL_law_1068 : decode cL_law 1068 = .ok (.iadd, 1) := by decide +kernel
theorem dL_law_1069 : decode cL_law 1069 = .ok (.iaload, 1) := by decide +kernel
theorem dL_law_1070 : decode cL_law 1070 = .ok (.invokevirtual 129, 3) := by decide +kernel
theorem dL_law_1073 : decode cL_law 1073 = .ok (.aload_n 2, 1) := by decide +kernel
theorem dL_law_1074 : decode cL_law 1074 = .ok (.aload_n 0, 1) := by decide +kernel
theorem dL_law_1075 : decode cL_law 1075 = .ok (.iload 4, 2) := by decide +kernel
theorem dL_law_1077 : decode cL_law 1077 = .ok (.iconst 1, 1) := by decide +kernel
theorem dL_law_1078 : decode cL_law 1078 = .ok (.iadd, 1) := by decide +kernel
theorem dL_law_1079 : decode cL_law 1079 = .ok (.iaload, 1) := by decide +kernel
theorem dL_law_1080 : decode cL_law 1080 = .ok (.aload_n 0, 1) := by decide +kernel
theorem dL_law_1081 : decode cL_law 1081 = .ok (.iload 4, 2) := by decide +kernel
theorem dL_law_1083 : decode cL_law 1083 = .ok (.iconst 2, 1) := by decide +kernel
theorem dL_law_1084 : decode cL_law 1084 = .ok (.iadd, 1) := by decide +kernel
theorem dL_law_1085 : decode cL_law 1085 = .ok (.iaload, 1) := by decide +kernel
theorem dL_law_1086 : decode cL_law 1086 = .ok (.invokevirtual 132, 3) := by decide +kernel
theorem dL_law_1089 : decode cL_law 1089 = .ok (.if_icmp .eq 116, 3) := by decide +kernel
theorem dL_law_1092 : decode cL_law 1092 = .ok (.iconst 0, 1) := by decide +kernel
theorem dL_law_1093 : decode cL_law 1093 = .ok (.ireturn, 1) := by decide +kernel
theorem dL_law_1094 : decode cL_law 1094 = .ok (.aload_n 1, 1) := by decide +kernel
theorem dL_law_1095 : decode cL_law 1095 = .ok (.aload_n 0, 1) := by decide +kernel
theorem dL_law_1096 : decode cL_law 1096 = .ok (.iload 4, 2) := by decide +kernel
theorem dL_law_1098 : decode cL_law 1098 = .ok (.iconst 1, 1) := by decide +kernel
theorem dL_law_1099 : decode cL_law 1099 = .ok (.iadd, 1) := by decide +kernel
theorem dL_law_1100 : decode cL_law 1100 = .ok (.iaload, 1) := by decide +kernel
theorem dL_law_1101 : decode cL_law 1101 = .ok (.aload_n 0, 1) := by decide +kernel
theorem dL_law_1102 : decode cL_law 1102 = .ok (.iload 4, 2) := by decide +kernel
theorem dL_law_1104 : decode cL_law 1104 = .ok (.iconst 2, 1) := by decide +kernel
theorem dL_law_1105 : decode cL_law 1105 = .ok (.iadd, 1) := by decide +kernel
theorem dL_law_1106 : decode cL_law 1106 = .ok (.iaload, 1) := by decide +kernel
theorem dL_law_1107 : decode cL_law 1107 = .ok (.aload_n 0, 1) := by decide +kernel
theorem dL_law_1108 : decode cL_law 1108 = .ok (.iload 4, 2) := by decide +kernel
theorem dL_law_1110 : decode cL_law 1110 = .ok (.iconst 3, 1) := by decide +kernel
theorem dL_law_1111 : decode cL_law 1111 = .ok (.iadd, 1) := by decide +kernel
theorem dL_law_1112 : decode cL_law 1112 = .ok (.iaload, 1) := by decide +kernel
theorem dL_law_1113 : decode cL_law 1113 = .ok (.invokevirtual 133, 3) := by decide +kernel
theorem dL_law_1116 : decode cL_law 1116 = .ok (.aload_n 2, 1) := by decide +kernel
theorem dL_law_1117 : decode cL_law 1117 = .ok (.aload_n 0, 1) := by decide +kernel
theorem dL_law_1118 : decode cL_law 1118 = .ok (.iload 4, 2) := by decide +kernel
theorem dL_law_1120 : decode cL_law 1120 = .ok (.iconst 1, 1) := by decide +kernel
theorem dL_law_1121 : decode cL_law 1121 = .ok (.iadd, 1) := by decide +kernel
theorem dL_law_1122 : decode cL_law 1122 = .ok (.iaload, 1) := by decide +kernel
theorem dL_law_1123 : decode cL_law 1123 = .ok (.aload_n 0, 1) := by decide +kernel
theorem dL_law_1124 : decode cL_law 1124 = .ok (.iload 4, 2) := by decide +kernel
theorem dL_law_1126 : decode cL_law 1126 = .ok (.iconst 2, 1) := by decide +kernel
theorem dL_law_1127 : decode cL_law 1127 = .ok (.iadd, 1) := by decide +kernel
theorem dL_law_1128 : decode cL_law 1128 = .ok (.iaload, 1) := by decide +kernel
theorem dL_law_1129 : decode cL_law 1129 = .ok (.aload_n 0, 1) := by decide +kernel
theorem dL_law_1130 : decode cL_law 1130 = .ok (.iload 4, 2) := by decide +kernel
theorem dL_law_1132 : decode cL_law 1132 = .ok (.iconst 3, 1) := by decide +kernel
theorem dL_law_1133 : decode cL_law 1133 = .ok (.iadd, 1) := by decide +kernel
theorem dL_law_1134 : decode cL_law 1134 = .ok (.iaload, 1) := by decide +kernel
theorem dL_law_1135 : decode cL_law 1135 = .ok (.invokevirtual 137, 3) := by decide +kernel
theorem dL_law_1138 : decode cL_law 1138 = .ok (.if_icmp .eq 67, 3) := by decide +kernel
theorem dL_law_1141 : decode cL_law 1141 = .ok (.iconst 0, 1) := by decide +kernel
theorem dL_law_1142 : decode cL_law 1142 = .ok (.ireturn, 1) := by decide +kernel
theorem dL_law_1143 : decode cL_law 1143 = .ok (.aload_n 1, 1) := by decide +kernel
theorem dL_law_1144 : decode cL_law 1144 = .ok (.aload_n 0, 1) := by decide +kernel
theorem dL_law_1145 : decode cL_law 1145 = .ok (.iload 4, 2) := by decide +kernel
theorem dL_law_1147 : decode cL_law 1147 = .ok (.iconst 1, 1) := by decide +kernel
theorem dL_law_1148 : decode cL_law 1148 = .ok (.iadd, 1) := by decide +kernel
theorem dL_law_1149 : decode cL_law 1149 = .ok (.iaload, 1) := by decide +kernel
theorem dL_law_1150 : decode cL_law 1150 = .ok (.aload_n 0, 1) := by decide +kernel
theorem dL_law_1151 : decode cL_law 1151 = .ok (.iload 4, 2) := by decide +kernel
theorem dL_law_1153 : decode cL_law 1153 = .ok (.iconst 2, 1) := by decide +kernel
theorem dL_law_1154 : decode cL_law 1154 = .ok (.iadd, 1) := by decide +kernel
theorem dL_law_1155 : decode cL_law 1155 = .ok (.iaload, 1) := by decide +kernel
theorem dL_law_1156 : decode cL_law 1156 = .ok (.invokevirtual 138, 3) := by decide +kernel
theorem dL_law_1159 : decode cL_law 1159 = .ok (.aload_n 2, 1) := by decide +kernel
theorem dL_law_1160 : decode cL_law 1160 = .ok (.aload_n 0, 1) := by decide +kernel
theorem dL_law_1161 : decode cL_law 1161 = .ok (.iload 4, 2) := by decide +kernel
theorem dL_law_1163 : decode cL_law 1163 = .ok (.iconst 1, 1) := by decide +kernel
theorem dL_law_1164 : decode cL_law 1164 = .ok (.iadd, 1) := by decide +kernel
theorem dL_law_1165 : decode cL_law 1165 = .ok (.iaload, 1) := by decide +kernel
theorem dL_law_1166 : decode cL_law 1166 = .ok (.aload_n 0, 1) := by decide +kernel
theorem dL_law_1167 : decode cL_law 1167 = .ok (.iload 4, 2) := by decide +kernel
theorem dL_law_1169 : decode cL_law 1169 = .ok (.iconst 2, 1) := by decide +kernel
theorem dL_law_1170 : decode cL_law 1170 = .ok (.iadd, 1) := by decide +kernel
theorem dL_law_1171 : decode cL_law 1171 = .ok (.iaload, 1) := by decide +kernel
theorem dL_law_1172 : decode cL_law 1172 = .ok (.invokevirtual 141, 3) := by decide +kernel
theorem dL_law_1175 : decode cL_law 1175 = .ok (.if_icmp .eq 30, 3) := by decide +kernel
theorem dL_law_1178 : decode cL_law 1178 = .ok (.iconst 0, 1) := by decide +kernel
theorem dL_law_1179 : decode cL_law 1179 = .ok (.ireturn, 1) := by decide +kernel
theorem dL_law_1180 : decode cL_law 1180 = .ok (.aload_n 1, 1) := by decide +kernel
theorem dL_law_1181 : decode cL_law 1181 = .ok (.aload_n 0, 1) := by decide +kernel
theorem dL_law_1182 : decode cL_law 1182 = .ok (.iload 4, 2) := by decide +kernel
theorem dL_law_1184 : decode cL_law 1184 = .ok (.iconst 1, 1) := by decide +kernel
theorem dL_law_1185 : decode cL_law 1185 = .ok (.iadd, 1) := by decide +kernel
theorem dL_law_1186 : decode cL_law 1186 = .ok (.iaload, 1) := by decide +kernel
theorem dL_law_1187 : decode cL_law 1187 = .ok (.invokevirtual 142, 3) := by decide +kernel
theorem dL_law_1190 : decode cL_law 1190 = .ok (.aload_n 2, 1) := by decide +kernel
theorem dL_law_1191 : decode cL_law 1191 = .ok (.aload_n 0, 1) := by decide +kernel
theorem dL_law_1192 : decode cL_law 1192 = .ok (.iload 4, 2) := by decide +kernel
theorem dL_law_1194 : decode cL_law 1194 = .ok (.iconst 1, 1) := by decide +kernel
theorem dL_law_1195 : decode cL_law 1195 = .ok (.iadd, 1) := by decide +kernel
theorem dL_law_1196 : decode cL_law 1196 = .ok (.iaload, 1) := by decide +kernel
theorem dL_law_1197 : decode cL_law 1197 = .ok (.invokevirtual 145, 3) := by decide +kernel
theorem dL_law_1200 : decode cL_law 1200 = .ok (.if_icmp .eq 5, 3) := by decide +kernel
theorem dL_law_1203 : decode cL_law 1203 = .ok (.iconst 0, 1) := by decide +kernel
theorem dL_law_1204 : decode cL_law 1204 = .ok (.ireturn, 1) := by decide +kernel
theorem dL_law_1205 : decode cL_law 1205 = .ok (.iinc 4 5, 3) := by decide +kernel
theorem dL_law_1208 : decode cL_law 1208 = .ok (.goto (-1185), 3) := by decide +kernel
theorem dL_law_1211 : decode cL_law 1211 = .ok (.iconst 1, 1) := by decide +kernel
theorem dL_law_1212 : decode cL_law 1212 = .ok (.ireturn, 1) := by decide +kernel
