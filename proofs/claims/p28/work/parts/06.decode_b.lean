theorem dX5_goal_0 : decode cX5_goal 0 = .ok (.aload_n 0, 1) := by decide +kernel
theorem dX5_goal_1 : decode cX5_goal 1 = .ok (.iload_n 1, 1) := by decide +kernel
theorem dX5_goal_2 : decode cX5_goal 2 = .ok (.invokevirtual 75, 3) := by decide +kernel
theorem dX5_goal_5 : decode cX5_goal 5 = .ok (.iload_n 2, 1) := by decide +kernel
theorem dX5_goal_6 : decode cX5_goal 6 = .ok (.bipush (-99), 2) := by decide +kernel
theorem dX5_goal_8 : decode cX5_goal 8 = .ok (.if_icmp .lt 13, 3) := by decide +kernel
theorem dX5_goal_11 : decode cX5_goal 11 = .ok (.iload_n 2, 1) := by decide +kernel
theorem dX5_goal_12 : decode cX5_goal 12 = .ok (.bipush 99, 2) := by decide +kernel
theorem dX5_goal_14 : decode cX5_goal 14 = .ok (.if_icmp .gt 7, 3) := by decide +kernel
theorem dX5_goal_17 : decode cX5_goal 17 = .ok (.iconst 1, 1) := by decide +kernel
theorem dX5_goal_18 : decode cX5_goal 18 = .ok (.goto 4, 3) := by decide +kernel
theorem dX5_goal_21 : decode cX5_goal 21 = .ok (.iconst 0, 1) := by decide +kernel
theorem dX5_goal_22 : decode cX5_goal 22 = .ok (.invokestatic 86, 3) := by decide +kernel
theorem dX5_goal_25 : decode cX5_goal 25 = .ok (.iload_n 3, 1) := by decide +kernel
theorem dX5_goal_26 : decode cX5_goal 26 = .ok (.iconst 1, 1) := by decide +kernel
theorem dX5_goal_27 : decode cX5_goal 27 = .ok (.if_icmp .lt 13, 3) := by decide +kernel
theorem dX5_goal_30 : decode cX5_goal 30 = .ok (.iload_n 3, 1) := by decide +kernel
theorem dX5_goal_31 : decode cX5_goal 31 = .ok (.bipush 99, 2) := by decide +kernel
theorem dX5_goal_33 : decode cX5_goal 33 = .ok (.if_icmp .gt 7, 3) := by decide +kernel
theorem dX5_goal_36 : decode cX5_goal 36 = .ok (.iconst 1, 1) := by decide +kernel
theorem dX5_goal_37 : decode cX5_goal 37 = .ok (.goto 4, 3) := by decide +kernel
theorem dX5_goal_40 : decode cX5_goal 40 = .ok (.iconst 0, 1) := by decide +kernel
theorem dX5_goal_41 : decode cX5_goal 41 = .ok (.invokestatic 86, 3) := by decide +kernel
theorem dX5_goal_44 : decode cX5_goal 44 = .ok (.aload_n 0, 1) := by decide +kernel
theorem dX5_goal_45 : decode cX5_goal 45 = .ok (.invokevirtual 54, 3) := by decide +kernel
theorem dX5_goal_48 : decode cX5_goal 48 = .ok (.aload_n 0, 1) := by decide +kernel
theorem dX5_goal_49 : decode cX5_goal 49 = .ok (.getfield 23, 3) := by decide +kernel
theorem dX5_goal_52 : decode cX5_goal 52 = .ok (.iload_n 1, 1) := by decide +kernel
theorem dX5_goal_53 : decode cX5_goal 53 = .ok (.iload_n 2, 1) := by decide +kernel
theorem dX5_goal_54 : decode cX5_goal 54 = .ok (.iload_n 3, 1) := by decide +kernel
theorem dX5_goal_55 : decode cX5_goal 55 = .ok (.invokevirtual 116, 3) := by decide +kernel
theorem dX5_goal_58 : decode cX5_goal 58 = .ok (.aload_n 0, 1) := by decide +kernel
theorem dX5_goal_59 : decode cX5_goal 59 = .ok (.invokevirtual 68, 3) := by decide +kernel
theorem dX5_goal_62 : decode cX5_goal 62 = .ok (.aload_n 0, 1) := by decide +kernel
theorem dX5_goal_63 : decode cX5_goal 63 = .ok (.getfield 19, 3) := by decide +kernel
theorem dX5_goal_66 : decode cX5_goal 66 = .ok (.aload_n 0, 1) := by decide +kernel
theorem dX5_goal_67 : decode cX5_goal 67 = .ok (.getfield 12, 3) := by decide +kernel
theorem dX5_goal_70 : decode cX5_goal 70 = .ok (.invokevirtual 120, 3) := by decide +kernel
theorem dX5_goal_73 : decode cX5_goal 73 = .ok (.invokestatic 124, 3) := by decide +kernel
theorem dX5_goal_76 : decode cX5_goal 76 = .ok (.ireturn, 1) := by decide +kernel
theorem dX5_set_0 : decode cX5_set 0 = .ok (.iload_n 1, 1) := by decide +kernel
theorem dX5_set_1 : decode cX5_set 1 = .ok (.ifCond .lt 12, 3) := by decide +kernel
theorem dX5_set_4 : decode cX5_set 4 = .ok (.iload_n 1, 1) := by decide +kernel
theorem dX5_set_5 : decode cX5_set 5 = .ok (.iconst 3, 1) := by decide +kernel
theorem dX5_set_6 : decode cX5_set 6 = .ok (.if_icmp .gt 7, 3) := by decide +kernel
theorem dX5_set_9 : decode cX5_set 9 = .ok (.iconst 1, 1) := by decide +kernel
theorem dX5_set_10 : decode cX5_set 10 = .ok (.goto 4, 3) := by decide +kernel
theorem dX5_set_13 : decode cX5_set 13 = .ok (.iconst 0, 1) := by decide +kernel
theorem dX5_set_14 : decode cX5_set 14 = .ok (.invokestatic 86, 3) := by decide +kernel
theorem dX5_set_17 : decode cX5_set 17 = .ok (.aload_n 0, 1) := by decide +kernel
theorem dX5_set_18 : decode cX5_set 18 = .ok (.getfield 12, 3) := by decide +kernel
theorem dX5_set_21 : decode cX5_set 21 = .ok (.getfield 128, 3) := by decide +kernel
theorem dX5_set_24 : decode cX5_set 24 = .ok (.istore_n 2, 1) := by decide +kernel
theorem dX5_set_25 : decode cX5_set 25 = .ok (.aload_n 0, 1) := by decide +kernel
theorem dX5_set_26 : decode cX5_set 26 = .ok (.invokevirtual 54, 3) := by decide +kernel
theorem dX5_set_29 : decode cX5_set 29 = .ok (.aload_n 0, 1) := by decide +kernel
theorem dX5_set_30 : decode cX5_set 30 = .ok (.getfield 23, 3) := by decide +kernel
theorem dX5_set_33 : decode cX5_set 33 = .ok (.iload_n 1, 1) := by decide +kernel
theorem dX5_set_34 : decode cX5_set 34 = .ok (.putfield 128, 3) := by decide +kernel
theorem dX5_set_37 : decode cX5_set 37 = .ok (.aload_n 0, 1) := by decide +kernel
theorem dX5_set_38 : decode cX5_set 38 = .ok (.invokevirtual 68, 3) := by decide +kernel
theorem dX5_set_41 : decode cX5_set 41 = .ok (.iload_n 2, 1) := by decide +kernel
theorem dX5_set_42 : decode cX5_set 42 = .ok (.ireturn, 1) := by decide +kernel
theorem dX5_undo_0 : decode cX5_undo 0 = .ok (.aload_n 0, 1) := by decide +kernel
theorem dX5_undo_1 : decode cX5_undo 1 = .ok (.getfield 46, 3) := by decide +kernel
theorem dX5_undo_4 : decode cX5_undo 4 = .ok (.aload_n 0, 1) := by decide +kernel
theorem dX5_undo_5 : decode cX5_undo 5 = .ok (.getfield 12, 3) := by decide +kernel
theorem dX5_undo_8 : decode cX5_undo 8 = .ok (.invokevirtual 155, 3) := by decide +kernel
theorem dX5_undo_11 : decode cX5_undo 11 = .ok (.ifCond .ne 13, 3) := by decide +kernel
theorem dX5_undo_14 : decode cX5_undo 14 = .ok (.new 61, 3) := by decide +kernel
theorem dX5_undo_17 : decode cX5_undo 17 = .ok (.dup, 1) := by decide +kernel
theorem dX5_undo_18 : decode cX5_undo 18 = .ok (.ldc 158, 2) := by decide +kernel
theorem dX5_undo_20 : decode cX5_undo 20 = .ok (.invokespecial 65, 3) := by decide +kernel
theorem dX5_undo_23 : decode cX5_undo 23 = .ok (.athrow, 1) := by decide +kernel
theorem dX5_undo_24 : decode cX5_undo 24 = .ok (.aload_n 0, 1) := by decide +kernel
theorem dX5_undo_25 : decode cX5_undo 25 = .ok (.getfield 19, 3) := by decide +kernel
theorem dX5_undo_28 : decode cX5_undo 28 = .ok (.aload_n 0, 1) := by decide +kernel
theorem dX5_undo_29 : decode cX5_undo 29 = .ok (.getfield 12, 3) := by decide +kernel
theorem dX5_undo_32 : decode cX5_undo 32 = .ok (.invokevirtual 160, 3) := by decide +kernel
theorem dX5_undo_35 : decode cX5_undo 35 = .ok (.aload_n 0, 1) := by decide +kernel
theorem dX5_undo_36 : decode cX5_undo 36 = .ok (.getfield 46, 3) := by decide +kernel
theorem dX5_undo_39 : decode cX5_undo 39 = .ok (.getfield 164, 3) := by decide +kernel
theorem dX5_undo_42 : decode cX5_undo 42 = .ok (.ireturn, 1) := by decide +kernel
theorem dX5_peg_0 : decode cX5_peg 0 = .ok (.aload_n 0, 1) := by decide +kernel
theorem dX5_peg_1 : decode cX5_peg 1 = .ok (.iload_n 1, 1) := by decide +kernel
theorem dX5_peg_2 : decode cX5_peg 2 = .ok (.invokevirtual 75, 3) := by decide +kernel
theorem dX5_peg_5 : decode cX5_peg 5 = .ok (.iload_n 2, 1) := by decide +kernel
theorem dX5_peg_6 : decode cX5_peg 6 = .ok (.ifCond .lt 13, 3) := by decide +kernel
theorem dX5_peg_9 : decode cX5_peg 9 = .ok (.iload_n 2, 1) := by decide +kernel
theorem dX5_peg_10 : decode cX5_peg 10 = .ok (.bipush 8, 2) := by decide +kernel
theorem dX5_peg_12 : decode cX5_peg 12 = .ok (.if_icmp .gt 7, 3) := by decide +kernel
theorem dX5_peg_15 : decode cX5_peg 15 = .ok (.iconst 1, 1) := by decide +kernel
theorem dX5_peg_16 : decode cX5_peg 16 = .ok (.goto 4, 3) := by decide +kernel
theorem dX5_peg_19 : decode cX5_peg 19 = .ok (.iconst 0, 1) := by decide +kernel
theorem dX5_peg_20 : decode cX5_peg 20 = .ok (.invokestatic 86, 3) := by decide +kernel
theorem dX5_peg_23 : decode cX5_peg 23 = .ok (.aload_n 0, 1) := by decide +kernel
theorem dX5_peg_24 : decode cX5_peg 24 = .ok (.iload_n 1, 1) := by decide +kernel
theorem dX5_peg_25 : decode cX5_peg 25 = .ok (.iload_n 2, 1) := by decide +kernel
theorem dX5_peg_26 : decode cX5_peg 26 = .ok (.invokevirtual 167, 3) := by decide +kernel
theorem dX5_peg_29 : decode cX5_peg 29 = .ok (.ireturn, 1) := by decide +kernel
theorem dX5_speed_0 : decode cX5_speed 0 = .ok (.aload_n 0, 1) := by decide +kernel
theorem dX5_speed_1 : decode cX5_speed 1 = .ok (.iload_n 1, 1) := by decide +kernel
theorem dX5_speed_2 : decode cX5_speed 2 = .ok (.invokevirtual 75, 3) := by decide +kernel
theorem dX5_speed_5 : decode cX5_speed 5 = .ok (.iload_n 2, 1) := by decide +kernel
theorem dX5_speed_6 : decode cX5_speed 6 = .ok (.ifCond .eq 8, 3) := by decide +kernel
theorem dX5_speed_9 : decode cX5_speed 9 = .ok (.iload_n 2, 1) := by decide +kernel
theorem dX5_speed_10 : decode cX5_speed 10 = .ok (.iconst 1, 1) := by decide +kernel
theorem dX5_speed_11 : decode cX5_speed 11 = .ok (.if_icmp .ne 7, 3) := by decide +kernel
theorem dX5_speed_14 : decode cX5_speed 14 = .ok (.iconst 1, 1) := by decide +kernel
theorem dX5_speed_15 : decode cX5_speed 15 = .ok (.goto 4, 3) := by decide +kernel
theorem dX5_speed_18 : decode cX5_speed 18 = .ok (.iconst 0, 1) := by decide +kernel
theorem dX5_speed_19 : decode cX5_speed 19 = .ok (.invokestatic 86, 3) := by decide +kernel
theorem dX5_speed_22 : decode cX5_speed 22 = .ok (.iload_n 2, 1) := by decide +kernel
theorem dX5_speed_23 : decode cX5_speed 23 = .ok (.ifCond .ne 15, 3) := by decide +kernel
theorem dX5_speed_26 : decode cX5_speed 26 = .ok (.aload_n 0, 1) := by decide +kernel
theorem dX5_speed_27 : decode cX5_speed 27 = .ok (.getfield 19, 3) := by decide +kernel
theorem dX5_speed_30 : decode cX5_speed 30 = .ok (.getfield 171, 3) := by decide +kernel
theorem dX5_speed_33 : decode cX5_speed 33 = .ok (.iload_n 1, 1) := by decide +kernel
theorem dX5_speed_34 : decode cX5_speed 34 = .ok (.laload, 1) := by decide +kernel
theorem dX5_speed_35 : decode cX5_speed 35 = .ok (.goto 12, 3) := by decide +kernel
theorem dX5_speed_38 : decode cX5_speed 38 = .ok (.aload_n 0, 1) := by decide +kernel
theorem dX5_speed_39 : decode cX5_speed 39 = .ok (.getfield 19, 3) := by decide +kernel
theorem dX5_speed_42 : decode cX5_speed 42 = .ok (.getfield 175, 3) := by decide +kernel
theorem dX5_speed_45 : decode cX5_speed 45 = .ok (.iload_n 1, 1) := by decide +kernel
theorem dX5_speed_46 : decode cX5_speed 46 = .ok (.laload, 1) := by decide +kernel
theorem dX5_speed_47 : decode cX5_speed 47 = .ok (.lreturn, 1) := by decide +kernel
theorem dX5_meshes_0 : decode cX5_meshes 0 = .ok (.aload_n 0, 1) := by decide +kernel
theorem dX5_meshes_1 : decode cX5_meshes 1 = .ok (.iload_n 1, 1) := by decide +kernel
theorem dX5_meshes_2 : decode cX5_meshes 2 = .ok (.invokevirtual 75, 3) := by decide +kernel
theorem dX5_meshes_5 : decode cX5_meshes 5 = .ok (.aload_n 0, 1) := by decide +kernel
theorem dX5_meshes_6 : decode cX5_meshes 6 = .ok (.iload_n 2, 1) := by decide +kernel
theorem dX5_meshes_7 : decode cX5_meshes 7 = .ok (.invokevirtual 75, 3) := by decide +kernel
theorem dX5_meshes_10 : decode cX5_meshes 10 = .ok (.aload_n 0, 1) := by decide +kernel
theorem dX5_meshes_11 : decode cX5_meshes 11 = .ok (.getfield 19, 3) := by decide +kernel
theorem dX5_meshes_14 : decode cX5_meshes 14 = .ok (.iload_n 1, 1) := by decide +kernel
theorem dX5_meshes_15 : decode cX5_meshes 15 = .ok (.iload_n 2, 1) := by decide +kernel
theorem dX5_meshes_16 : decode cX5_meshes 16 = .ok (.invokevirtual 178, 3) := by decide +kernel
theorem dX5_meshes_19 : decode cX5_meshes 19 = .ok (.ireturn, 1) := by decide +kernel
theorem dX5_train_0 : decode cX5_train 0 = .ok (.aload_n 0, 1) := by decide +kernel
theorem dX5_train_1 : decode cX5_train 1 = .ok (.iload_n 1, 1) := by decide +kernel
theorem dX5_train_2 : decode cX5_train 2 = .ok (.invokevirtual 75, 3) := by decide +kernel
theorem dX5_train_5 : decode cX5_train 5 = .ok (.aload_n 0, 1) := by decide +kernel
theorem dX5_train_6 : decode cX5_train 6 = .ok (.iload_n 2, 1) := by decide +kernel
theorem dX5_train_7 : decode cX5_train 7 = .ok (.invokevirtual 75, 3) := by decide +kernel
theorem dX5_train_10 : decode cX5_train 10 = .ok (.iload_n 3, 1) := by decide +kernel
theorem dX5_train_11 : decode cX5_train 11 = .ok (.ifCond .lt 12, 3) := by decide +kernel
theorem dX5_train_14 : decode cX5_train 14 = .ok (.iload_n 3, 1) := by decide +kernel
theorem dX5_train_15 : decode cX5_train 15 = .ok (.iconst 3, 1) := by decide +kernel
theorem dX5_train_16 : decode cX5_train 16 = .ok (.if_icmp .gt 7, 3) := by decide +kernel
theorem dX5_train_19 : decode cX5_train 19 = .ok (.iconst 1, 1) := by decide +kernel
theorem dX5_train_20 : decode cX5_train 20 = .ok (.goto 4, 3) := by decide +kernel
theorem dX5_train_23 : decode cX5_train 23 = .ok (.iconst 0, 1) := by decide +kernel
theorem dX5_train_24 : decode cX5_train 24 = .ok (.invokestatic 86, 3) := by decide +kernel
theorem dX5_train_27 : decode cX5_train 27 = .ok (.aload_n 0, 1) := by decide +kernel
theorem dX5_train_28 : decode cX5_train 28 = .ok (.getfield 32, 3) := by decide +kernel
theorem dX5_train_31 : decode cX5_train 31 = .ok (.aload_n 0, 1) := by decide +kernel
theorem dX5_train_32 : decode cX5_train 32 = .ok (.getfield 12, 3) := by decide +kernel
theorem dX5_train_35 : decode cX5_train 35 = .ok (.aload_n 0, 1) := by decide +kernel
theorem dX5_train_36 : decode cX5_train 36 = .ok (.getfield 19, 3) := by decide +kernel
theorem dX5_train_39 : decode cX5_train 39 = .ok (.iload_n 1, 1) := by decide +kernel
theorem dX5_train_40 : decode cX5_train 40 = .ok (.iload_n 2, 1) := by decide +kernel
theorem dX5_train_41 : decode cX5_train 41 = .ok (.invokevirtual 181, 3) := by decide +kernel
theorem dX5_train_44 : decode cX5_train 44 = .ok (.aload_n 0, 1) := by decide +kernel
theorem dX5_train_45 : decode cX5_train 45 = .ok (.iload_n 3, 1) := by decide +kernel
theorem dX5_train_46 : decode cX5_train 46 = .ok (.invokevirtual 185, 3) := by decide +kernel
theorem dX5_train_49 : decode cX5_train 49 = .ok (.ireturn, 1) := by decide +kernel
theorem dX5_ratio_0 : decode cX5_ratio 0 = .ok (.aload_n 0, 1) := by decide +kernel
theorem dX5_ratio_1 : decode cX5_ratio 1 = .ok (.iload_n 1, 1) := by decide +kernel
theorem dX5_ratio_2 : decode cX5_ratio 2 = .ok (.invokevirtual 75, 3) := by decide +kernel
theorem dX5_ratio_5 : decode cX5_ratio 5 = .ok (.aload_n 0, 1) := by decide +kernel
theorem dX5_ratio_6 : decode cX5_ratio 6 = .ok (.iload_n 2, 1) := by decide +kernel
theorem dX5_ratio_7 : decode cX5_ratio 7 = .ok (.invokevirtual 75, 3) := by decide +kernel
theorem dX5_ratio_10 : decode cX5_ratio 10 = .ok (.iload_n 3, 1) := by decide +kernel
theorem dX5_ratio_11 : decode cX5_ratio 11 = .ok (.ifCond .eq 8, 3) := by decide +kernel
theorem dX5_ratio_14 : decode cX5_ratio 14 = .ok (.iload_n 3, 1) := by decide +kernel
theorem dX5_ratio_15 : decode cX5_ratio 15 = .ok (.iconst 1, 1) := by decide +kernel
theorem dX5_ratio_16 : decode cX5_ratio 16 = .ok (.if_icmp .ne 7, 3) := by decide +kernel
theorem dX5_ratio_19 : decode cX5_ratio 19 = .ok (.iconst 1, 1) := by decide +kernel
theorem dX5_ratio_20 : decode cX5_ratio 20 = .ok (.goto 4, 3) := by decide +kernel
theorem dX5_ratio_23 : decode cX5_ratio 23 = .ok (.iconst 0, 1) := by decide +kernel
theorem dX5_ratio_24 : decode cX5_ratio 24 = .ok (.invokestatic 86, 3) := by decide +kernel
theorem dX5_ratio_27 : decode cX5_ratio 27 = .ok (.aload_n 0, 1) := by decide +kernel
theorem dX5_ratio_28 : decode cX5_ratio 28 = .ok (.getfield 32, 3) := by decide +kernel
theorem dX5_ratio_31 : decode cX5_ratio 31 = .ok (.aload_n 0, 1) := by decide +kernel
theorem dX5_ratio_32 : decode cX5_ratio 32 = .ok (.getfield 12, 3) := by decide +kernel
theorem dX5_ratio_35 : decode cX5_ratio 35 = .ok (.aload_n 0, 1) := by decide +kernel
theorem dX5_ratio_36 : decode cX5_ratio 36 = .ok (.getfield 19, 3) := by decide +kernel
theorem dX5_ratio_39 : decode cX5_ratio 39 = .ok (.iload_n 1, 1) := by decide +kernel
theorem dX5_ratio_40 : decode cX5_ratio 40 = .ok (.iload_n 2, 1) := by decide +kernel
theorem dX5_ratio_41 : decode cX5_ratio 41 = .ok (.invokevirtual 181, 3) := by decide +kernel
theorem dX5_ratio_44 : decode cX5_ratio 44 = .ok (.iload_n 3, 1) := by decide +kernel
theorem dX5_ratio_45 : decode cX5_ratio 45 = .ok (.ifCond .ne 13, 3) := by decide +kernel
theorem dX5_ratio_48 : decode cX5_ratio 48 = .ok (.aload_n 0, 1) := by decide +kernel
theorem dX5_ratio_49 : decode cX5_ratio 49 = .ok (.getfield 32, 3) := by decide +kernel
theorem dX5_ratio_52 : decode cX5_ratio 52 = .ok (.getfield 188, 3) := by decide +kernel
theorem dX5_ratio_55 : decode cX5_ratio 55 = .ok (.goto 10, 3) := by decide +kernel
theorem dX5_ratio_58 : decode cX5_ratio 58 = .ok (.aload_n 0, 1) := by decide +kernel
theorem dX5_ratio_59 : decode cX5_ratio 59 = .ok (.getfield 32, 3) := by decide +kernel
theorem dX5_ratio_62 : decode cX5_ratio 62 = .ok (.getfield 192, 3) := by decide +kernel
theorem dX5_ratio_65 : decode cX5_ratio 65 = .ok (.lreturn, 1) := by decide +kernel
theorem dX5_marks_0 : decode cX5_marks 0 = .ok (.aload_n 0, 1) := by decide +kernel
theorem dX5_marks_1 : decode cX5_marks 1 = .ok (.getfield 19, 3) := by decide +kernel
theorem dX5_marks_4 : decode cX5_marks 4 = .ok (.aload_n 0, 1) := by decide +kernel
theorem dX5_marks_5 : decode cX5_marks 5 = .ok (.getfield 12, 3) := by decide +kernel
theorem dX5_marks_8 : decode cX5_marks 8 = .ok (.invokevirtual 195, 3) := by decide +kernel
theorem dX5_marks_11 : decode cX5_marks 11 = .ok (.lreturn, 1) := by decide +kernel
theorem dX5_count_0 : decode cX5_count 0 = .ok (.iload_n 1, 1) := by decide +kernel
theorem dX5_count_1 : decode cX5_count 1 = .ok (.ifCond .lt 13, 3) := by decide +kernel
theorem dX5_count_4 : decode cX5_count 4 = .ok (.iload_n 1, 1) := by decide +kernel
theorem dX5_count_5 : decode cX5_count 5 = .ok (.bipush 10, 2) := by decide +kernel
theorem dX5_count_7 : decode cX5_count 7 = .ok (.if_icmp .gt 7, 3) := by decide +kernel
theorem dX5_count_10 : decode cX5_count 10 = .ok (.iconst 1, 1) := by decide +kernel
theorem dX5_count_11 : decode cX5_count 11 = .ok (.goto 4, 3) := by decide +kernel
theorem dX5_count_14 : decode cX5_count 14 = .ok (.iconst 0, 1) := by decide +kernel
theorem dX5_count_15 : decode cX5_count 15 = .ok (.invokestatic 86, 3) := by decide +kernel
theorem dX5_count_18 : decode cX5_count 18 = .ok (.aload_n 0, 1) := by decide +kernel
theorem dX5_count_19 : decode cX5_count 19 = .ok (.iload_n 1, 1) := by decide +kernel
theorem dX5_count_20 : decode cX5_count 20 = .ok (.invokevirtual 199, 3) := by decide +kernel
theorem dX5_count_23 : decode cX5_count 23 = .ok (.ireturn, 1) := by decide +kernel
theorem dX5_ifPut_0 : decode cX5_ifPut 0 = .ok (.aload_n 0, 1) := by decide +kernel
theorem dX5_ifPut_1 : decode cX5_ifPut 1 = .ok (.iload_n 1, 1) := by decide +kernel
theorem dX5_ifPut_2 : decode cX5_ifPut 2 = .ok (.invokevirtual 75, 3) := by decide +kernel
theorem dX5_ifPut_5 : decode cX5_ifPut 5 = .ok (.iload_n 2, 1) := by decide +kernel
theorem dX5_ifPut_6 : decode cX5_ifPut 6 = .ok (.invokestatic 79, 3) := by decide +kernel
theorem dX5_ifPut_9 : decode cX5_ifPut 9 = .ok (.ifCond .eq 25, 3) := by decide +kernel
theorem dX5_ifPut_12 : decode cX5_ifPut 12 = .ok (.iload_n 3, 1) := by decide +kernel
theorem dX5_ifPut_13 : decode cX5_ifPut 13 = .ok (.invokestatic 83, 3) := by decide +kernel
theorem dX5_ifPut_16 : decode cX5_ifPut 16 = .ok (.ifCond .eq 18, 3) := by decide +kernel
theorem dX5_ifPut_19 : decode cX5_ifPut 19 = .ok (.iload 4, 2) := by decide +kernel
theorem dX5_ifPut_21 : decode cX5_ifPut 21 = .ok (.ifCond .lt 13, 3) := by decide +kernel
theorem dX5_ifPut_24 : decode cX5_ifPut 24 = .ok (.iload 4, 2) := by decide +kernel
theorem dX5_ifPut_26 : decode cX5_ifPut 26 = .ok (.iconst 3, 1) := by decide +kernel
theorem dX5_ifPut_27 : decode cX5_ifPut 27 = .ok (.if_icmp .gt 7, 3) := by decide +kernel
theorem dX5_ifPut_30 : decode cX5_ifPut 30 = .ok (.iconst 1, 1) := by decide +kernel
theorem dX5_ifPut_31 : decode cX5_ifPut 31 = .ok (.goto 4, 3) := by decide +kernel
theorem dX5_ifPut_34 : decode cX5_ifPut 34 = .ok (.iconst 0, 1) := by decide +kernel
theorem dX5_ifPut_35 : decode cX5_ifPut 35 = .ok (.invokestatic 86, 3) := by decide +kernel
theorem dX5_ifPut_38 : decode cX5_ifPut 38 = .ok (.aload_n 0, 1) := by decide +kernel
theorem dX5_ifPut_39 : decode cX5_ifPut 39 = .ok (.invokevirtual 54, 3) := by decide +kernel
theorem dX5_ifPut_42 : decode cX5_ifPut 42 = .ok (.aload_n 0, 1) := by decide +kernel
theorem dX5_ifPut_43 : decode cX5_ifPut 43 = .ok (.getfield 23, 3) := by decide +kernel
theorem dX5_ifPut_46 : decode cX5_ifPut 46 = .ok (.iload_n 1, 1) := by decide +kernel
theorem dX5_ifPut_47 : decode cX5_ifPut 47 = .ok (.iload_n 2, 1) := by decide +kernel
theorem dX5_ifPut_48 : decode cX5_ifPut 48 = .ok (.iload_n 3, 1) := by decide +kernel
theorem dX5_ifPut_49 : decode cX5_ifPut 49 = .ok (.invokestatic 90, 3) := by decide +kernel
theorem dX5_ifPut_52 : decode cX5_ifPut 52 = .ok (.iload_n 3, 1) := by decide +kernel
theorem dX5_ifPut_53 : decode cX5_ifPut 53 = .ok (.invokevirtual 202, 3) := by decide +kernel
theorem dX5_ifPut_56 : decode cX5_ifPut 56 = .ok (.iload 4, 2) := by decide +kernel
theorem dX5_ifPut_58 : decode cX5_ifPut 58 = .ok (.ifCond .ne 29, 3) := by decide +kernel
theorem dX5_ifPut_61 : decode cX5_ifPut 61 = .ok (.aload_n 0, 1) := by decide +kernel
theorem dX5_ifPut_62 : decode cX5_ifPut 62 = .ok (.getfield 23, 3) := by decide +kernel
theorem dX5_ifPut_65 : decode cX5_ifPut 65 = .ok (.iload_n 1, 1) := by decide +kernel
theorem dX5_ifPut_66 : decode cX5_ifPut 66 = .ok (.iload_n 2, 1) := by decide +kernel
theorem dX5_ifPut_67 : decode cX5_ifPut 67 = .ok (.invokevirtual 206, 3) := by decide +kernel
theorem dX5_ifPut_70 : decode cX5_ifPut 70 = .ok (.ifCond .eq 15, 3) := by decide +kernel
theorem dX5_ifPut_73 : decode cX5_ifPut 73 = .ok (.aload_n 0, 1) := by decide +kernel
theorem dX5_ifPut_74 : decode cX5_ifPut 74 = .ok (.getfield 23, 3) := by decide +kernel
theorem dX5_ifPut_77 : decode cX5_ifPut 77 = .ok (.iload_n 1, 1) := by decide +kernel
theorem dX5_ifPut_78 : decode cX5_ifPut 78 = .ok (.iload_n 2, 1) := by decide +kernel
theorem dX5_ifPut_79 : decode cX5_ifPut 79 = .ok (.invokevirtual 209, 3) := by decide +kernel
theorem dX5_ifPut_82 : decode cX5_ifPut 82 = .ok (.goto 4, 3) := by decide +kernel
theorem dX5_ifPut_85 : decode cX5_ifPut 85 = .ok (.iconst (-1), 1) := by decide +kernel
theorem dX5_ifPut_86 : decode cX5_ifPut 86 = .ok (.ireturn, 1) := by decide +kernel
theorem dX5_ifPut_87 : decode cX5_ifPut 87 = .ok (.aload_n 0, 1) := by decide +kernel
theorem dX5_ifPut_88 : decode cX5_ifPut 88 = .ok (.getfield 26, 3) := by decide +kernel
theorem dX5_ifPut_91 : decode cX5_ifPut 91 = .ok (.aload_n 0, 1) := by decide +kernel
theorem dX5_ifPut_92 : decode cX5_ifPut 92 = .ok (.getfield 23, 3) := by decide +kernel
theorem dX5_ifPut_95 : decode cX5_ifPut 95 = .ok (.invokevirtual 160, 3) := by decide +kernel
theorem dX5_ifPut_98 : decode cX5_ifPut 98 = .ok (.iload 4, 2) := by decide +kernel
theorem dX5_ifPut_100 : decode cX5_ifPut 100 = .ok (.iconst 1, 1) := by decide +kernel
theorem dX5_ifPut_101 : decode cX5_ifPut 101 = .ok (.if_icmp .ne 14, 3) := by decide +kernel
theorem dX5_ifPut_104 : decode cX5_ifPut 104 = .ok (.aload_n 0, 1) := by decide +kernel
theorem dX5_ifPut_105 : decode cX5_ifPut 105 = .ok (.getfield 26, 3) := by decide +kernel
theorem dX5_ifPut_108 : decode cX5_ifPut 108 = .ok (.getfield 212, 3) := by decide +kernel
theorem dX5_ifPut_111 : decode cX5_ifPut 111 = .ok (.invokestatic 124, 3) := by decide +kernel
theorem dX5_ifPut_114 : decode cX5_ifPut 114 = .ok (.ireturn, 1) := by decide +kernel
theorem dX5_ifPut_115 : decode cX5_ifPut 115 = .ok (.iload 4, 2) := by decide +kernel
theorem dX5_ifPut_117 : decode cX5_ifPut 117 = .ok (.iconst 2, 1) := by decide +kernel
theorem dX5_ifPut_118 : decode cX5_ifPut 118 = .ok (.if_icmp .ne 11, 3) := by decide +kernel
theorem dX5_ifPut_121 : decode cX5_ifPut 121 = .ok (.aload_n 0, 1) := by decide +kernel
theorem dX5_ifPut_122 : decode cX5_ifPut 122 = .ok (.getfield 26, 3) := by decide +kernel
theorem dX5_ifPut_125 : decode cX5_ifPut 125 = .ok (.getfield 215, 3) := by decide +kernel
theorem dX5_ifPut_128 : decode cX5_ifPut 128 = .ok (.ireturn, 1) := by decide +kernel
theorem dX5_ifPut_129 : decode cX5_ifPut 129 = .ok (.aload_n 0, 1) := by decide +kernel
theorem dX5_ifPut_130 : decode cX5_ifPut 130 = .ok (.getfield 23, 3) := by decide +kernel
theorem dX5_ifPut_133 : decode cX5_ifPut 133 = .ok (.getfield 113, 3) := by decide +kernel
theorem dX5_ifPut_136 : decode cX5_ifPut 136 = .ok (.iconst (-1), 1) := by decide +kernel
theorem dX5_ifPut_137 : decode cX5_ifPut 137 = .ok (.if_icmp .eq 21, 3) := by decide +kernel
theorem dX5_ifPut_140 : decode cX5_ifPut 140 = .ok (.aload_n 0, 1) := by decide +kernel
theorem dX5_ifPut_141 : decode cX5_ifPut 141 = .ok (.getfield 26, 3) := by decide +kernel
theorem dX5_ifPut_144 : decode cX5_ifPut 144 = .ok (.aload_n 0, 1) := by decide +kernel
theorem dX5_ifPut_145 : decode cX5_ifPut 145 = .ok (.getfield 23, 3) := by decide +kernel
theorem dX5_ifPut_148 : decode cX5_ifPut 148 = .ok (.invokevirtual 120, 3) := by decide +kernel
theorem dX5_ifPut_151 : decode cX5_ifPut 151 = .ok (.ifCond .eq 7, 3) := by decide +kernel
theorem dX5_ifPut_154 : decode cX5_ifPut 154 = .ok (.iconst 1, 1) := by decide +kernel
theorem dX5_ifPut_155 : decode cX5_ifPut 155 = .ok (.goto 4, 3) := by decide +kernel
theorem dX5_ifPut_158 : decode cX5_ifPut 158 = .ok (.iconst 0, 1) := by decide +kernel
theorem dX5_ifPut_159 : decode cX5_ifPut 159 = .ok (.invokestatic 124, 3) := by decide +kernel
theorem dX5_ifPut_162 : decode cX5_ifPut 162 = .ok (.ireturn, 1) := by decide +kernel
theorem dX5_solution_0 : decode cX5_solution 0 = .ok (.iload_n 1, 1) := by decide +kernel
theorem dX5_solution_1 : decode cX5_solution 1 = .ok (.ifCond .lt 12, 3) := by decide +kernel
theorem dX5_solution_4 : decode cX5_solution 4 = .ok (.iload_n 1, 1) := by decide +kernel
theorem dX5_solution_5 : decode cX5_solution 5 = .ok (.iconst 2, 1) := by decide +kernel
theorem dX5_solution_6 : decode cX5_solution 6 = .ok (.if_icmp .gt 7, 3) := by decide +kernel
theorem dX5_solution_9 : decode cX5_solution 9 = .ok (.iconst 1, 1) := by decide +kernel
theorem dX5_solution_10 : decode cX5_solution 10 = .ok (.goto 4, 3) := by decide +kernel
theorem dX5_solution_13 : decode cX5_solution 13 = .ok (.iconst 0, 1) := by decide +kernel
theorem dX5_solution_14 : decode cX5_solution 14 = .ok (.invokestatic 86, 3) := by decide +kernel
theorem dX5_solution_17 : decode cX5_solution 17 = .ok (.aload_n 0, 1) := by decide +kernel
theorem dX5_solution_18 : decode cX5_solution 18 = .ok (.invokevirtual 218, 3) := by decide +kernel
theorem dX5_solution_21 : decode cX5_solution 21 = .ok (.iload_n 1, 1) := by decide +kernel
theorem dX5_solution_22 : decode cX5_solution 22 = .ok (.invokestatic 222, 3) := by decide +kernel
theorem dX5_solution_25 : decode cX5_solution 25 = .ok (.ireturn, 1) := by decide +kernel
theorem dX5_culprit_0 : decode cX5_culprit 0 = .ok (.aload_n 0, 1) := by decide +kernel
theorem dX5_culprit_1 : decode cX5_culprit 1 = .ok (.getfield 19, 3) := by decide +kernel
theorem dX5_culprit_4 : decode cX5_culprit 4 = .ok (.getfield 212, 3) := by decide +kernel
theorem dX5_culprit_7 : decode cX5_culprit 7 = .ok (.ifCond .ne 5, 3) := by decide +kernel
theorem dX5_culprit_10 : decode cX5_culprit 10 = .ok (.iconst (-1), 1) := by decide +kernel
theorem dX5_culprit_11 : decode cX5_culprit 11 = .ok (.ireturn, 1) := by decide +kernel
theorem dX5_culprit_12 : decode cX5_culprit 12 = .ok (.iconst 0, 1) := by decide +kernel
theorem dX5_culprit_13 : decode cX5_culprit 13 = .ok (.istore_n 1, 1) := by decide +kernel
theorem dX5_culprit_14 : decode cX5_culprit 14 = .ok (.iload_n 1, 1) := by decide +kernel
theorem dX5_culprit_15 : decode cX5_culprit 15 = .ok (.aload_n 0, 1) := by decide +kernel
theorem dX5_culprit_16 : decode cX5_culprit 16 = .ok (.getfield 12, 3) := by decide +kernel
theorem dX5_culprit_19 : decode cX5_culprit 19 = .ok (.getfield 71, 3) := by decide +kernel
theorem dX5_culprit_22 : decode cX5_culprit 22 = .ok (.if_icmp .ge 30, 3) := by decide +kernel
theorem dX5_culprit_25 : decode cX5_culprit 25 = .ok (.iload_n 1, 1) := by decide +kernel
theorem dX5_culprit_26 : decode cX5_culprit 26 = .ok (.aload_n 0, 1) := by decide +kernel
theorem dX5_culprit_27 : decode cX5_culprit 27 = .ok (.getfield 12, 3) := by decide +kernel
theorem dX5_culprit_30 : decode cX5_culprit 30 = .ok (.getfield 113, 3) := by decide +kernel
theorem dX5_culprit_33 : decode cX5_culprit 33 = .ok (.if_icmp .eq 13, 3) := by decide +kernel
theorem dX5_culprit_36 : decode cX5_culprit 36 = .ok (.aload_n 0, 1) := by decide +kernel
theorem dX5_culprit_37 : decode cX5_culprit 37 = .ok (.iload_n 1, 1) := by decide +kernel
theorem dX5_culprit_38 : decode cX5_culprit 38 = .ok (.invokevirtual 225, 3) := by decide +kernel
theorem dX5_culprit_41 : decode cX5_culprit 41 = .ok (.ifCond .eq 5, 3) := by decide +kernel
theorem dX5_culprit_44 : decode cX5_culprit 44 = .ok (.iload_n 1, 1) := by decide +kernel
theorem dX5_culprit_45 : decode cX5_culprit 45 = .ok (.ireturn, 1) := by decide +kernel
theorem dX5_culprit_46 : decode cX5_culprit 46 = .ok (.iinc 1 1, 3) := by decide +kernel
theorem dX5_culprit_49 : decode cX5_culprit 49 = .ok (.goto (-35), 3) := by decide +kernel
theorem dX5_culprit_52 : decode cX5_culprit 52 = .ok (.iconst (-1), 1) := by decide +kernel
theorem dX5_culprit_53 : decode cX5_culprit 53 = .ok (.ireturn, 1) := by decide +kernel
theorem dX5_needPeg_0 : decode cX5_needPeg 0 = .ok (.aload_n 0, 1) := by decide +kernel
theorem dX5_needPeg_1 : decode cX5_needPeg 1 = .ok (.getfield 12, 3) := by decide +kernel
theorem dX5_needPeg_4 : decode cX5_needPeg 4 = .ok (.iload_n 1, 1) := by decide +kernel
theorem dX5_needPeg_5 : decode cX5_needPeg 5 = .ok (.invokevirtual 265, 3) := by decide +kernel
theorem dX5_needPeg_8 : decode cX5_needPeg 8 = .ok (.ifCond .ne 14, 3) := by decide +kernel
theorem dX5_needPeg_11 : decode cX5_needPeg 11 = .ok (.new 268, 3) := by decide +kernel
theorem dX5_needPeg_14 : decode cX5_needPeg 14 = .ok (.dup, 1) := by decide +kernel
theorem dX5_needPeg_15 : decode cX5_needPeg 15 = .ok (.ldc_w 270, 3) := by decide +kernel
theorem dX5_needPeg_18 : decode cX5_needPeg 18 = .ok (.invokespecial 272, 3) := by decide +kernel
theorem dX5_needPeg_21 : decode cX5_needPeg 21 = .ok (.athrow, 1) := by decide +kernel
theorem dX5_needPeg_22 : decode cX5_needPeg 22 = .ok (.return_, 1) := by decide +kernel
theorem dX5_needPlace_0 : decode cX5_needPlace 0 = .ok (.iload_n 0, 1) := by decide +kernel
theorem dX5_needPlace_1 : decode cX5_needPlace 1 = .ok (.ifCond .lt 23, 3) := by decide +kernel
theorem dX5_needPlace_4 : decode cX5_needPlace 4 = .ok (.iload_n 0, 1) := by decide +kernel
theorem dX5_needPlace_5 : decode cX5_needPlace 5 = .ok (.bipush 60, 2) := by decide +kernel
theorem dX5_needPlace_7 : decode cX5_needPlace 7 = .ok (.if_icmp .gt 17, 3) := by decide +kernel
theorem dX5_needPlace_10 : decode cX5_needPlace 10 = .ok (.iload_n 1, 1) := by decide +kernel
theorem dX5_needPlace_11 : decode cX5_needPlace 11 = .ok (.ifCond .lt 13, 3) := by decide +kernel
theorem dX5_needPlace_14 : decode cX5_needPlace 14 = .ok (.iload_n 1, 1) := by decide +kernel
theorem dX5_needPlace_15 : decode cX5_needPlace 15 = .ok (.bipush 60, 2) := by decide +kernel
theorem dX5_needPlace_17 : decode cX5_needPlace 17 = .ok (.if_icmp .gt 7, 3) := by decide +kernel
theorem dX5_needPlace_20 : decode cX5_needPlace 20 = .ok (.iconst 1, 1) := by decide +kernel
theorem dX5_needPlace_21 : decode cX5_needPlace 21 = .ok (.goto 4, 3) := by decide +kernel
theorem dX5_needPlace_24 : decode cX5_needPlace 24 = .ok (.iconst 0, 1) := by decide +kernel
theorem dX5_needPlace_25 : decode cX5_needPlace 25 = .ok (.invokestatic 86, 3) := by decide +kernel
theorem dX5_needPlace_28 : decode cX5_needPlace 28 = .ok (.return_, 1) := by decide +kernel
theorem dX5_need_0 : decode cX5_need 0 = .ok (.iload_n 0, 1) := by decide +kernel
theorem dX5_need_1 : decode cX5_need 1 = .ok (.ifCond .ne 14, 3) := by decide +kernel
theorem dX5_need_4 : decode cX5_need 4 = .ok (.new 273, 3) := by decide +kernel
theorem dX5_need_7 : decode cX5_need 7 = .ok (.dup, 1) := by decide +kernel
theorem dX5_need_8 : decode cX5_need 8 = .ok (.ldc_w 275, 3) := by decide +kernel
theorem dX5_need_11 : decode cX5_need 11 = .ok (.invokespecial 277, 3) := by decide +kernel
theorem dX5_need_14 : decode cX5_need 14 = .ok (.athrow, 1) := by decide +kernel
theorem dX5_need_15 : decode cX5_need 15 = .ok (.return_, 1) := by decide +kernel
theorem dX5_isLevel_0 : decode cX5_isLevel 0 = .ok (.iload_n 0, 1) := by decide +kernel
theorem dX5_isLevel_1 : decode cX5_isLevel 1 = .ok (.ifCond .lt 12, 3) := by decide +kernel
theorem dX5_isLevel_4 : decode cX5_isLevel 4 = .ok (.iload_n 0, 1) := by decide +kernel
theorem dX5_isLevel_5 : decode cX5_isLevel 5 = .ok (.iconst 2, 1) := by decide +kernel
theorem dX5_isLevel_6 : decode cX5_isLevel 6 = .ok (.if_icmp .ge 7, 3) := by decide +kernel
theorem dX5_isLevel_9 : decode cX5_isLevel 9 = .ok (.iconst 1, 1) := by decide +kernel
theorem dX5_isLevel_10 : decode cX5_isLevel 10 = .ok (.goto 4, 3) := by decide +kernel
theorem dX5_isLevel_13 : decode cX5_isLevel 13 = .ok (.iconst 0, 1) := by decide +kernel
theorem dX5_isLevel_14 : decode cX5_isLevel 14 = .ok (.ireturn, 1) := by decide +kernel
theorem dX5_isGear_0 : decode cX5_isGear 0 = .ok (.iload_n 0, 1) := by decide +kernel
theorem dX5_isGear_1 : decode cX5_isGear 1 = .ok (.ifCond .lt 13, 3) := by decide +kernel
theorem dX5_isGear_4 : decode cX5_isGear 4 = .ok (.iload_n 0, 1) := by decide +kernel
theorem dX5_isGear_5 : decode cX5_isGear 5 = .ok (.bipush 20, 2) := by decide +kernel
theorem dX5_isGear_7 : decode cX5_isGear 7 = .ok (.if_icmp .gt 7, 3) := by decide +kernel
theorem dX5_isGear_10 : decode cX5_isGear 10 = .ok (.iconst 1, 1) := by decide +kernel
theorem dX5_isGear_11 : decode cX5_isGear 11 = .ok (.goto 4, 3) := by decide +kernel
theorem dX5_isGear_14 : decode cX5_isGear 14 = .ok (.iconst 0, 1) := by decide +kernel
theorem dX5_isGear_15 : decode cX5_isGear 15 = .ok (.ireturn, 1) := by decide +kernel
theorem dX5_kindOfGear_0 : decode cX5_kindOfGear 0 = .ok (.iload_n 0, 1) := by decide +kernel
theorem dX5_kindOfGear_1 : decode cX5_kindOfGear 1 = .ok (.ifCond .ne 7, 3) := by decide +kernel
theorem dX5_kindOfGear_4 : decode cX5_kindOfGear 4 = .ok (.iconst 0, 1) := by decide +kernel
theorem dX5_kindOfGear_5 : decode cX5_kindOfGear 5 = .ok (.goto 4, 3) := by decide +kernel
theorem dX5_kindOfGear_8 : decode cX5_kindOfGear 8 = .ok (.iconst 1, 1) := by decide +kernel
theorem dX5_kindOfGear_9 : decode cX5_kindOfGear 9 = .ok (.ireturn, 1) := by decide +kernel
theorem dX5_startTrial_0 : decode cX5_startTrial 0 = .ok (.aload_n 0, 1) := by decide +kernel
theorem dX5_startTrial_1 : decode cX5_startTrial 1 = .ok (.getfield 23, 3) := by decide +kernel
theorem dX5_startTrial_4 : decode cX5_startTrial 4 = .ok (.aload_n 0, 1) := by decide +kernel
theorem dX5_startTrial_5 : decode cX5_startTrial 5 = .ok (.getfield 12, 3) := by decide +kernel
theorem dX5_startTrial_8 : decode cX5_startTrial 8 = .ok (.invokevirtual 278, 3) := by decide +kernel
theorem dX5_startTrial_11 : decode cX5_startTrial 11 = .ok (.return_, 1) := by decide +kernel
theorem dX5_keepTrial_0 : decode cX5_keepTrial 0 = .ok (.aload_n 0, 1) := by decide +kernel
theorem dX5_keepTrial_1 : decode cX5_keepTrial 1 = .ok (.getfield 46, 3) := by decide +kernel
theorem dX5_keepTrial_4 : decode cX5_keepTrial 4 = .ok (.aload_n 0, 1) := by decide +kernel
theorem dX5_keepTrial_5 : decode cX5_keepTrial 5 = .ok (.getfield 12, 3) := by decide +kernel
theorem dX5_keepTrial_8 : decode cX5_keepTrial 8 = .ok (.invokevirtual 281, 3) := by decide +kernel
theorem dX5_keepTrial_11 : decode cX5_keepTrial 11 = .ok (.aload_n 0, 1) := by decide +kernel
theorem dX5_keepTrial_12 : decode cX5_keepTrial 12 = .ok (.getfield 12, 3) := by decide +kernel
theorem dX5_keepTrial_15 : decode cX5_keepTrial 15 = .ok (.aload_n 0, 1) := by decide +kernel
theorem dX5_keepTrial_16 : decode cX5_keepTrial 16 = .ok (.getfield 23, 3) := by decide +kernel
theorem dX5_keepTrial_19 : decode cX5_keepTrial 19 = .ok (.invokevirtual 278, 3) := by decide +kernel
theorem dX5_keepTrial_22 : decode cX5_keepTrial 22 = .ok (.aload_n 0, 1) := by decide +kernel
theorem dX5_keepTrial_23 : decode cX5_keepTrial 23 = .ok (.getfield 19, 3) := by decide +kernel
theorem dX5_keepTrial_26 : decode cX5_keepTrial 26 = .ok (.aload_n 0, 1) := by decide +kernel
theorem dX5_keepTrial_27 : decode cX5_keepTrial 27 = .ok (.getfield 12, 3) := by decide +kernel
theorem dX5_keepTrial_30 : decode cX5_keepTrial 30 = .ok (.invokevirtual 160, 3) := by decide +kernel
theorem dX5_keepTrial_33 : decode cX5_keepTrial 33 = .ok (.return_, 1) := by decide +kernel
theorem dX5_putThing_0 : decode cX5_putThing 0 = .ok (.aload_n 0, 1) := by decide +kernel
theorem dX5_putThing_1 : decode cX5_putThing 1 = .ok (.invokevirtual 54, 3) := by decide +kernel
theorem dX5_putThing_4 : decode cX5_putThing 4 = .ok (.aload_n 0, 1) := by decide +kernel
theorem dX5_putThing_5 : decode cX5_putThing 5 = .ok (.getfield 23, 3) := by decide +kernel
theorem dX5_putThing_8 : decode cX5_putThing 8 = .ok (.iload_n 1, 1) := by decide +kernel
theorem dX5_putThing_9 : decode cX5_putThing 9 = .ok (.iload_n 2, 1) := by decide +kernel
theorem dX5_putThing_10 : decode cX5_putThing 10 = .ok (.iload_n 3, 1) := by decide +kernel
theorem dX5_putThing_11 : decode cX5_putThing 11 = .ok (.iload 4, 2) := by decide +kernel
theorem dX5_putThing_13 : decode cX5_putThing 13 = .ok (.invokevirtual 284, 3) := by decide +kernel
theorem dX5_putThing_16 : decode cX5_putThing 16 = .ok (.ifCond .ne 14, 3) := by decide +kernel
theorem dX5_putThing_19 : decode cX5_putThing 19 = .ok (.new 61, 3) := by decide +kernel
theorem dX5_putThing_22 : decode cX5_putThing 22 = .ok (.dup, 1) := by decide +kernel
theorem dX5_putThing_23 : decode cX5_putThing 23 = .ok (.ldc_w 288, 3) := by decide +kernel
theorem dX5_putThing_26 : decode cX5_putThing 26 = .ok (.invokespecial 65, 3) := by decide +kernel
theorem dX5_putThing_29 : decode cX5_putThing 29 = .ok (.athrow, 1) := by decide +kernel
theorem dX5_putThing_30 : decode cX5_putThing 30 = .ok (.aload_n 0, 1) := by decide +kernel
theorem dX5_putThing_31 : decode cX5_putThing 31 = .ok (.invokevirtual 68, 3) := by decide +kernel
theorem dX5_putThing_34 : decode cX5_putThing 34 = .ok (.aload_n 0, 1) := by decide +kernel
theorem dX5_putThing_35 : decode cX5_putThing 35 = .ok (.getfield 12, 3) := by decide +kernel
theorem dX5_putThing_38 : decode cX5_putThing 38 = .ok (.iload_n 1, 1) := by decide +kernel
theorem dX5_putThing_39 : decode cX5_putThing 39 = .ok (.iload_n 2, 1) := by decide +kernel
theorem dX5_putThing_40 : decode cX5_putThing 40 = .ok (.invokevirtual 209, 3) := by decide +kernel
theorem dX5_putThing_43 : decode cX5_putThing 43 = .ok (.ireturn, 1) := by decide +kernel
theorem dX5_pegProperty_0 : decode cX5_pegProperty 0 = .ok (.iload_n 2, 1) := by decide +kernel
theorem dX5_pegProperty_1 : decode cX5_pegProperty 1 = .ok (.tableswitch 145 0 7 #[47, 57, 67, 81, 95, 109, 123, 136], 47) := by decide +kernel
theorem dX5_pegProperty_48 : decode cX5_pegProperty 48 = .ok (.aload_n 0, 1) := by decide +kernel
theorem dX5_pegProperty_49 : decode cX5_pegProperty 49 = .ok (.getfield 12, 3) := by decide +kernel
theorem dX5_pegProperty_52 : decode cX5_pegProperty 52 = .ok (.getfield 300, 3) := by decide +kernel
theorem dX5_pegProperty_55 : decode cX5_pegProperty 55 = .ok (.iload_n 1, 1) := by decide +kernel
theorem dX5_pegProperty_56 : decode cX5_pegProperty 56 = .ok (.iaload, 1) := by decide +kernel
theorem dX5_pegProperty_57 : decode cX5_pegProperty 57 = .ok (.ireturn, 1) := by decide +kernel
theorem dX5_pegProperty_58 : decode cX5_pegProperty 58 = .ok (.aload_n 0, 1) := by decide +kernel
theorem dX5_pegProperty_59 : decode cX5_pegProperty 59 = .ok (.getfield 12, 3) := by decide +kernel
theorem dX5_pegProperty_62 : decode cX5_pegProperty 62 = .ok (.getfield 303, 3) := by decide +kernel
theorem dX5_pegProperty_65 : decode cX5_pegProperty 65 = .ok (.iload_n 1, 1) := by decide +kernel
theorem dX5_pegProperty_66 : decode cX5_pegProperty 66 = .ok (.iaload, 1) := by decide +kernel
theorem dX5_pegProperty_67 : decode cX5_pegProperty 67 = .ok (.ireturn, 1) := by decide +kernel
theorem dX5_pegProperty_68 : decode cX5_pegProperty 68 = .ok (.aload_n 0, 1) := by decide +kernel
theorem dX5_pegProperty_69 : decode cX5_pegProperty 69 = .ok (.getfield 12, 3) := by decide +kernel
theorem dX5_pegProperty_72 : decode cX5_pegProperty 72 = .ok (.getfield 306, 3) := by decide +kernel
theorem dX5_pegProperty_75 : decode cX5_pegProperty 75 = .ok (.iload_n 1, 1) := by decide +kernel
theorem dX5_pegProperty_76 : decode cX5_pegProperty 76 = .ok (.iconst 0, 1) := by decide +kernel
theorem dX5_pegProperty_77 : decode cX5_pegProperty 77 = .ok (.invokestatic 309, 3) := by decide +kernel
theorem dX5_pegProperty_80 : decode cX5_pegProperty 80 = .ok (.iaload, 1) := by decide +kernel
theorem dX5_pegProperty_81 : decode cX5_pegProperty 81 = .ok (.ireturn, 1) := by decide +kernel
theorem dX5_pegProperty_82 : decode cX5_pegProperty 82 = .ok (.aload_n 0, 1) := by decide +kernel
theorem dX5_pegProperty_83 : decode cX5_pegProperty 83 = .ok (.getfield 12, 3) := by decide +kernel
theorem dX5_pegProperty_86 : decode cX5_pegProperty 86 = .ok (.getfield 306, 3) := by decide +kernel
theorem dX5_pegProperty_89 : decode cX5_pegProperty 89 = .ok (.iload_n 1, 1) := by decide +kernel
theorem dX5_pegProperty_90 : decode cX5_pegProperty 90 = .ok (.iconst 1, 1) := by decide +kernel
theorem dX5_pegProperty_91 : decode cX5_pegProperty 91 = .ok (.invokestatic 309, 3) := by decide +kernel
theorem dX5_pegProperty_94 : decode cX5_pegProperty 94 = .ok (.iaload, 1) := by decide +kernel
theorem dX5_pegProperty_95 : decode cX5_pegProperty 95 = .ok (.ireturn, 1) := by decide +kernel
theorem dX5_pegProperty_96 : decode cX5_pegProperty 96 = .ok (.aload_n 0, 1) := by decide +kernel
theorem dX5_pegProperty_97 : decode cX5_pegProperty 97 = .ok (.getfield 12, 3) := by decide +kernel
theorem dX5_pegProperty_100 : decode cX5_pegProperty 100 = .ok (.getfield 312, 3) := by decide +kernel
theorem dX5_pegProperty_103 : decode cX5_pegProperty 103 = .ok (.iload_n 1, 1) := by decide +kernel
theorem dX5_pegProperty_104 : decode cX5_pegProperty 104 = .ok (.iconst 0, 1) := by decide +kernel
theorem dX5_pegProperty_105 : decode cX5_pegProperty 105 = .ok (.invokestatic 309, 3) := by decide +kernel
theorem dX5_pegProperty_108 : decode cX5_pegProperty 108 = .ok (.iaload, 1) := by decide +kernel
theorem dX5_pegProperty_109 : decode cX5_pegProperty 109 = .ok (.ireturn, 1) := by decide +kernel
theorem dX5_pegProperty_110 : decode cX5_pegProperty 110 = .ok (.aload_n 0, 1) := by decide +kernel
theorem dX5_pegProperty_111 : decode cX5_pegProperty 111 = .ok (.getfield 12, 3) := by decide +kernel
theorem dX5_pegProperty_114 : decode cX5_pegProperty 114 = .ok (.getfield 312, 3) := by decide +kernel
theorem dX5_pegProperty_117 : decode cX5_pegProperty 117 = .ok (.iload_n 1, 1) := by decide +kernel
theorem dX5_pegProperty_118 : decode cX5_pegProperty 118 = .ok (.iconst 1, 1) := by decide +kernel
theorem dX5_pegProperty_119 : decode cX5_pegProperty 119 = .ok (.invokestatic 309, 3) := by decide +kernel
theorem dX5_pegProperty_122 : decode cX5_pegProperty 122 = .ok (.iaload, 1) := by decide +kernel
theorem dX5_pegProperty_123 : decode cX5_pegProperty 123 = .ok (.ireturn, 1) := by decide +kernel
theorem dX5_pegProperty_124 : decode cX5_pegProperty 124 = .ok (.aload_n 0, 1) := by decide +kernel
theorem dX5_pegProperty_125 : decode cX5_pegProperty 125 = .ok (.getfield 19, 3) := by decide +kernel
theorem dX5_pegProperty_128 : decode cX5_pegProperty 128 = .ok (.aload_n 0, 1) := by decide +kernel
theorem dX5_pegProperty_129 : decode cX5_pegProperty 129 = .ok (.getfield 12, 3) := by decide +kernel
theorem dX5_pegProperty_132 : decode cX5_pegProperty 132 = .ok (.iload_n 1, 1) := by decide +kernel
theorem dX5_pegProperty_133 : decode cX5_pegProperty 133 = .ok (.invokevirtual 104, 3) := by decide +kernel
theorem dX5_pegProperty_136 : decode cX5_pegProperty 136 = .ok (.ireturn, 1) := by decide +kernel
theorem dX5_pegProperty_137 : decode cX5_pegProperty 137 = .ok (.aload_n 0, 1) := by decide +kernel
theorem dX5_pegProperty_138 : decode cX5_pegProperty 138 = .ok (.getfield 19, 3) := by decide +kernel
theorem dX5_pegProperty_141 : decode cX5_pegProperty 141 = .ok (.iload_n 1, 1) := by decide +kernel
theorem dX5_pegProperty_142 : decode cX5_pegProperty 142 = .ok (.invokevirtual 315, 3) := by decide +kernel
theorem dX5_pegProperty_145 : decode cX5_pegProperty 145 = .ok (.ireturn, 1) := by decide +kernel
theorem dX5_pegProperty_146 : decode cX5_pegProperty 146 = .ok (.aload_n 0, 1) := by decide +kernel
theorem dX5_pegProperty_147 : decode cX5_pegProperty 147 = .ok (.getfield 19, 3) := by decide +kernel
theorem dX5_pegProperty_150 : decode cX5_pegProperty 150 = .ok (.getfield 318, 3) := by decide +kernel
theorem dX5_pegProperty_153 : decode cX5_pegProperty 153 = .ok (.iload_n 1, 1) := by decide +kernel
theorem dX5_pegProperty_154 : decode cX5_pegProperty 154 = .ok (.baload, 1) := by decide +kernel
theorem dX5_pegProperty_155 : decode cX5_pegProperty 155 = .ok (.invokestatic 124, 3) := by decide +kernel
theorem dX5_pegProperty_158 : decode cX5_pegProperty 158 = .ok (.ireturn, 1) := by decide +kernel
theorem dX5_rowProperty_0 : decode cX5_rowProperty 0 = .ok (.aload_n 0, 1) := by decide +kernel
theorem dX5_rowProperty_1 : decode cX5_rowProperty 1 = .ok (.getfield 32, 3) := by decide +kernel
theorem dX5_rowProperty_4 : decode cX5_rowProperty 4 = .ok (.getfield 322, 3) := by decide +kernel
theorem dX5_rowProperty_7 : decode cX5_rowProperty 7 = .ok (.ifCond .ne 5, 3) := by decide +kernel
theorem dX5_rowProperty_10 : decode cX5_rowProperty 10 = .ok (.iconst (-1), 1) := by decide +kernel
theorem dX5_rowProperty_11 : decode cX5_rowProperty 11 = .ok (.ireturn, 1) := by decide +kernel
theorem dX5_rowProperty_12 : decode cX5_rowProperty 12 = .ok (.iload_n 1, 1) := by decide +kernel
theorem dX5_rowProperty_13 : decode cX5_rowProperty 13 = .ok (.tableswitch 68 0 2 #[27, 35, 43], 27) := by decide +kernel
theorem dX5_rowProperty_40 : decode cX5_rowProperty 40 = .ok (.aload_n 0, 1) := by decide +kernel
theorem dX5_rowProperty_41 : decode cX5_rowProperty 41 = .ok (.getfield 32, 3) := by decide +kernel
theorem dX5_rowProperty_44 : decode cX5_rowProperty 44 = .ok (.getfield 322, 3) := by decide +kernel
theorem dX5_rowProperty_47 : decode cX5_rowProperty 47 = .ok (.ireturn, 1) := by decide +kernel
theorem dX5_rowProperty_48 : decode cX5_rowProperty 48 = .ok (.aload_n 0, 1) := by decide +kernel
theorem dX5_rowProperty_49 : decode cX5_rowProperty 49 = .ok (.getfield 32, 3) := by decide +kernel
theorem dX5_rowProperty_52 : decode cX5_rowProperty 52 = .ok (.getfield 323, 3) := by decide +kernel
theorem dX5_rowProperty_55 : decode cX5_rowProperty 55 = .ok (.ireturn, 1) := by decide +kernel
theorem dX5_rowProperty_56 : decode cX5_rowProperty 56 = .ok (.aload_n 0, 1) := by decide +kernel
theorem dX5_rowProperty_57 : decode cX5_rowProperty 57 = .ok (.getfield 32, 3) := by decide +kernel
theorem dX5_rowProperty_60 : decode cX5_rowProperty 60 = .ok (.getfield 322, 3) := by decide +kernel
theorem dX5_rowProperty_63 : decode cX5_rowProperty 63 = .ok (.iconst 1, 1) := by decide +kernel
theorem dX5_rowProperty_64 : decode cX5_rowProperty 64 = .ok (.if_icmp .le 15, 3) := by decide +kernel
theorem dX5_rowProperty_67 : decode cX5_rowProperty 67 = .ok (.aload_n 0, 1) := by decide +kernel
theorem dX5_rowProperty_68 : decode cX5_rowProperty 68 = .ok (.getfield 32, 3) := by decide +kernel
theorem dX5_rowProperty_71 : decode cX5_rowProperty 71 = .ok (.getfield 326, 3) := by decide +kernel
theorem dX5_rowProperty_74 : decode cX5_rowProperty 74 = .ok (.iconst 1, 1) := by decide +kernel
theorem dX5_rowProperty_75 : decode cX5_rowProperty 75 = .ok (.iaload, 1) := by decide +kernel
theorem dX5_rowProperty_76 : decode cX5_rowProperty 76 = .ok (.goto 4, 3) := by decide +kernel
theorem dX5_rowProperty_79 : decode cX5_rowProperty 79 = .ok (.iconst (-1), 1) := by decide +kernel
theorem dX5_rowProperty_80 : decode cX5_rowProperty 80 = .ok (.ireturn, 1) := by decide +kernel
theorem dX5_rowProperty_81 : decode cX5_rowProperty 81 = .ok (.aload_n 0, 1) := by decide +kernel
theorem dX5_rowProperty_82 : decode cX5_rowProperty 82 = .ok (.getfield 32, 3) := by decide +kernel
theorem dX5_rowProperty_85 : decode cX5_rowProperty 85 = .ok (.getfield 188, 3) := by decide +kernel
theorem dX5_rowProperty_88 : decode cX5_rowProperty 88 = .ok (.lconst 0, 1) := by decide +kernel
theorem dX5_rowProperty_89 : decode cX5_rowProperty 89 = .ok (.lcmp, 1) := by decide +kernel
theorem dX5_rowProperty_90 : decode cX5_rowProperty 90 = .ok (.ifCond .ge 7, 3) := by decide +kernel
theorem dX5_rowProperty_93 : decode cX5_rowProperty 93 = .ok (.iconst 1, 1) := by decide +kernel
theorem dX5_rowProperty_94 : decode cX5_rowProperty 94 = .ok (.goto 4, 3) := by decide +kernel
theorem dX5_rowProperty_97 : decode cX5_rowProperty 97 = .ok (.iconst 0, 1) := by decide +kernel
theorem dX5_rowProperty_98 : decode cX5_rowProperty 98 = .ok (.invokestatic 124, 3) := by decide +kernel
theorem dX5_rowProperty_101 : decode cX5_rowProperty 101 = .ok (.ireturn, 1) := by decide +kernel
theorem dX5_countOf_0 : decode cX5_countOf 0 = .ok (.iload_n 1, 1) := by decide +kernel
theorem dX5_countOf_1 : decode cX5_countOf 1 = .ok (.tableswitch 151 0 9 #[55, 63, 72, 81, 93, 101, 109, 120, 128, 143], 55) := by decide +kernel
theorem dX5_countOf_56 : decode cX5_countOf 56 = .ok (.aload_n 0, 1) := by decide +kernel
theorem dX5_countOf_57 : decode cX5_countOf 57 = .ok (.getfield 12, 3) := by decide +kernel
theorem dX5_countOf_60 : decode cX5_countOf 60 = .ok (.getfield 71, 3) := by decide +kernel
theorem dX5_countOf_63 : decode cX5_countOf 63 = .ok (.ireturn, 1) := by decide +kernel
theorem dX5_countOf_64 : decode cX5_countOf 64 = .ok (.aload_n 0, 1) := by decide +kernel
theorem dX5_countOf_65 : decode cX5_countOf 65 = .ok (.getfield 12, 3) := by decide +kernel
theorem dX5_countOf_68 : decode cX5_countOf 68 = .ok (.iconst 1, 1) := by decide +kernel
theorem dX5_countOf_69 : decode cX5_countOf 69 = .ok (.invokevirtual 328, 3) := by decide +kernel
theorem dX5_countOf_72 : decode cX5_countOf 72 = .ok (.ireturn, 1) := by decide +kernel
theorem dX5_countOf_73 : decode cX5_countOf 73 = .ok (.aload_n 0, 1) := by decide +kernel
theorem dX5_countOf_74 : decode cX5_countOf 74 = .ok (.getfield 12, 3) := by decide +kernel
theorem dX5_countOf_77 : decode cX5_countOf 77 = .ok (.iconst 2, 1) := by decide +kernel
theorem dX5_countOf_78 : decode cX5_countOf 78 = .ok (.invokevirtual 328, 3) := by decide +kernel
theorem dX5_countOf_81 : decode cX5_countOf 81 = .ok (.ireturn, 1) := by decide +kernel
theorem dX5_countOf_82 : decode cX5_countOf 82 = .ok (.aload_n 0, 1) := by decide +kernel
theorem dX5_countOf_83 : decode cX5_countOf 83 = .ok (.getfield 19, 3) := by decide +kernel
theorem dX5_countOf_86 : decode cX5_countOf 86 = .ok (.aload_n 0, 1) := by decide +kernel
theorem dX5_countOf_87 : decode cX5_countOf 87 = .ok (.getfield 12, 3) := by decide +kernel
theorem dX5_countOf_90 : decode cX5_countOf 90 = .ok (.invokevirtual 331, 3) := by decide +kernel
theorem dX5_countOf_93 : decode cX5_countOf 93 = .ok (.ireturn, 1) := by decide +kernel
theorem dX5_countOf_94 : decode cX5_countOf 94 = .ok (.aload_n 0, 1) := by decide +kernel
theorem dX5_countOf_95 : decode cX5_countOf 95 = .ok (.getfield 12, 3) := by decide +kernel
theorem dX5_countOf_98 : decode cX5_countOf 98 = .ok (.getfield 113, 3) := by decide +kernel
theorem dX5_countOf_101 : decode cX5_countOf 101 = .ok (.ireturn, 1) := by decide +kernel
theorem dX5_countOf_102 : decode cX5_countOf 102 = .ok (.aload_n 0, 1) := by decide +kernel
theorem dX5_countOf_103 : decode cX5_countOf 103 = .ok (.getfield 19, 3) := by decide +kernel
theorem dX5_countOf_106 : decode cX5_countOf 106 = .ok (.getfield 215, 3) := by decide +kernel
theorem dX5_countOf_109 : decode cX5_countOf 109 = .ok (.ireturn, 1) := by decide +kernel
theorem dX5_countOf_110 : decode cX5_countOf 110 = .ok (.aload_n 0, 1) := by decide +kernel
theorem dX5_countOf_111 : decode cX5_countOf 111 = .ok (.getfield 19, 3) := by decide +kernel
theorem dX5_countOf_114 : decode cX5_countOf 114 = .ok (.getfield 212, 3) := by decide +kernel
theorem dX5_countOf_117 : decode cX5_countOf 117 = .ok (.invokestatic 124, 3) := by decide +kernel
theorem dX5_countOf_120 : decode cX5_countOf 120 = .ok (.ireturn, 1) := by decide +kernel
theorem dX5_countOf_121 : decode cX5_countOf 121 = .ok (.aload_n 0, 1) := by decide +kernel
theorem dX5_countOf_122 : decode cX5_countOf 122 = .ok (.getfield 12, 3) := by decide +kernel
theorem dX5_countOf_125 : decode cX5_countOf 125 = .ok (.getfield 334, 3) := by decide +kernel
theorem dX5_countOf_128 : decode cX5_countOf 128 = .ok (.ireturn, 1) := by decide +kernel
theorem dX5_countOf_129 : decode cX5_countOf 129 = .ok (.aload_n 0, 1) := by decide +kernel
theorem dX5_countOf_130 : decode cX5_countOf 130 = .ok (.getfield 19, 3) := by decide +kernel
theorem dX5_countOf_133 : decode cX5_countOf 133 = .ok (.aload_n 0, 1) := by decide +kernel
theorem dX5_countOf_134 : decode cX5_countOf 134 = .ok (.getfield 12, 3) := by decide +kernel
theorem dX5_countOf_137 : decode cX5_countOf 137 = .ok (.invokevirtual 120, 3) := by decide +kernel
theorem dX5_countOf_140 : decode cX5_countOf 140 = .ok (.invokestatic 124, 3) := by decide +kernel
theorem dX5_countOf_143 : decode cX5_countOf 143 = .ok (.ireturn, 1) := by decide +kernel
theorem dX5_countOf_144 : decode cX5_countOf 144 = .ok (.aload_n 0, 1) := by decide +kernel
theorem dX5_countOf_145 : decode cX5_countOf 145 = .ok (.getfield 12, 3) := by decide +kernel
theorem dX5_countOf_148 : decode cX5_countOf 148 = .ok (.invokevirtual 337, 3) := by decide +kernel
theorem dX5_countOf_151 : decode cX5_countOf 151 = .ok (.ireturn, 1) := by decide +kernel
theorem dX5_countOf_152 : decode cX5_countOf 152 = .ok (.aload_n 0, 1) := by decide +kernel
theorem dX5_countOf_153 : decode cX5_countOf 153 = .ok (.getfield 46, 3) := by decide +kernel
theorem dX5_countOf_156 : decode cX5_countOf 156 = .ok (.getfield 164, 3) := by decide +kernel
theorem dX5_countOf_159 : decode cX5_countOf 159 = .ok (.ireturn, 1) := by decide +kernel
theorem dX5_findChange_0 : decode cX5_findChange 0 = .ok (.aload_n 0, 1) := by decide +kernel
theorem dX5_findChange_1 : decode cX5_findChange 1 = .ok (.getfield 12, 3) := by decide +kernel
theorem dX5_findChange_4 : decode cX5_findChange 4 = .ok (.getfield 334, 3) := by decide +kernel
theorem dX5_findChange_7 : decode cX5_findChange 7 = .ok (.iconst (-1), 1) := by decide +kernel
theorem dX5_findChange_8 : decode cX5_findChange 8 = .ok (.if_icmp .eq 17, 3) := by decide +kernel
theorem dX5_findChange_11 : decode cX5_findChange 11 = .ok (.aload_n 0, 1) := by decide +kernel
theorem dX5_findChange_12 : decode cX5_findChange 12 = .ok (.getfield 19, 3) := by decide +kernel
theorem dX5_findChange_15 : decode cX5_findChange 15 = .ok (.aload_n 0, 1) := by decide +kernel
theorem dX5_findChange_16 : decode cX5_findChange 16 = .ok (.getfield 12, 3) := by decide +kernel
theorem dX5_findChange_19 : decode cX5_findChange 19 = .ok (.invokevirtual 120, 3) := by decide +kernel
theorem dX5_findChange_22 : decode cX5_findChange 22 = .ok (.ifCond .eq 5, 3) := by decide +kernel
theorem dX5_findChange_25 : decode cX5_findChange 25 = .ok (.iconst (-1), 1) := by decide +kernel
theorem dX5_findChange_26 : decode cX5_findChange 26 = .ok (.ireturn, 1) := by decide +kernel
theorem dX5_findChange_27 : decode cX5_findChange 27 = .ok (.aload_n 0, 1) := by decide +kernel
theorem dX5_findChange_28 : decode cX5_findChange 28 = .ok (.invokevirtual 54, 3) := by decide +kernel
theorem dX5_findChange_31 : decode cX5_findChange 31 = .ok (.aload_n 0, 1) := by decide +kernel
theorem dX5_findChange_32 : decode cX5_findChange 32 = .ok (.getfield 12, 3) := by decide +kernel
theorem dX5_findChange_35 : decode cX5_findChange 35 = .ok (.getfield 71, 3) := by decide +kernel
theorem dX5_findChange_38 : decode cX5_findChange 38 = .ok (.iconst 2, 1) := by decide +kernel
theorem dX5_findChange_39 : decode cX5_findChange 39 = .ok (.imul, 1) := by decide +kernel
theorem dX5_findChange_40 : decode cX5_findChange 40 = .ok (.bipush 21, 2) := by decide +kernel
theorem dX5_findChange_42 : decode cX5_findChange 42 = .ok (.imul, 1) := by decide +kernel
theorem dX5_findChange_43 : decode cX5_findChange 43 = .ok (.istore_n 1, 1) := by decide +kernel
theorem dX5_findChange_44 : decode cX5_findChange 44 = .ok (.iconst 0, 1) := by decide +kernel
theorem dX5_findChange_45 : decode cX5_findChange 45 = .ok (.istore_n 2, 1) := by decide +kernel
theorem dX5_findChange_46 : decode cX5_findChange 46 = .ok (.iload_n 2, 1) := by decide +kernel
theorem dX5_findChange_47 : decode cX5_findChange 47 = .ok (.iload_n 1, 1) := by decide +kernel
theorem dX5_findChange_48 : decode cX5_findChange 48 = .ok (.if_icmp .ge 19, 3) := by decide +kernel
theorem dX5_findChange_51 : decode cX5_findChange 51 = .ok (.aload_n 0, 1) := by decide +kernel
theorem dX5_findChange_52 : decode cX5_findChange 52 = .ok (.iload_n 2, 1) := by decide +kernel
theorem dX5_findChange_53 : decode cX5_findChange 53 = .ok (.invokevirtual 340, 3) := by decide +kernel
theorem dX5_findChange_56 : decode cX5_findChange 56 = .ok (.ifCond .eq 5, 3) := by decide +kernel
theorem dX5_findChange_59 : decode cX5_findChange 59 = .ok (.iload_n 2, 1) := by decide +kernel
theorem dX5_findChange_60 : decode cX5_findChange 60 = .ok (.ireturn, 1) := by decide +kernel
theorem dX5_findChange_61 : decode cX5_findChange 61 = .ok (.iinc 2 1, 3) := by decide +kernel
theorem dX5_findChange_64 : decode cX5_findChange 64 = .ok (.goto (-18), 3) := by decide +kernel
theorem dX5_findChange_67 : decode cX5_findChange 67 = .ok (.iconst (-1), 1) := by decide +kernel
theorem dX5_findChange_68 : decode cX5_findChange 68 = .ok (.ireturn, 1) := by decide +kernel
theorem dX5_changeReachesGoal_0 : decode cX5_changeReachesGoal 0 = .ok (.iload_n 1, 1) := by decide +kernel
theorem dX5_changeReachesGoal_1 : decode cX5_changeReachesGoal 1 = .ok (.iconst 0, 1) := by decide +kernel
theorem dX5_changeReachesGoal_2 : decode cX5_changeReachesGoal 2 = .ok (.invokestatic 222, 3) := by decide +kernel
theorem dX5_changeReachesGoal_5 : decode cX5_changeReachesGoal 5 = .ok (.istore_n 2, 1) := by decide +kernel
theorem dX5_changeReachesGoal_6 : decode cX5_changeReachesGoal 6 = .ok (.iload_n 1, 1) := by decide +kernel
theorem dX5_changeReachesGoal_7 : decode cX5_changeReachesGoal 7 = .ok (.iconst 1, 1) := by decide +kernel
theorem dX5_changeReachesGoal_8 : decode cX5_changeReachesGoal 8 = .ok (.invokestatic 222, 3) := by decide +kernel
theorem dX5_changeReachesGoal_11 : decode cX5_changeReachesGoal 11 = .ok (.istore_n 3, 1) := by decide +kernel
theorem dX5_changeReachesGoal_12 : decode cX5_changeReachesGoal 12 = .ok (.iload_n 1, 1) := by decide +kernel
theorem dX5_changeReachesGoal_13 : decode cX5_changeReachesGoal 13 = .ok (.iconst 2, 1) := by decide +kernel
theorem dX5_changeReachesGoal_14 : decode cX5_changeReachesGoal 14 = .ok (.invokestatic 222, 3) := by decide +kernel
theorem dX5_changeReachesGoal_17 : decode cX5_changeReachesGoal 17 = .ok (.istore 4, 2) := by decide +kernel
theorem dX5_changeReachesGoal_19 : decode cX5_changeReachesGoal 19 = .ok (.aload_n 0, 1) := by decide +kernel
theorem dX5_changeReachesGoal_20 : decode cX5_changeReachesGoal 20 = .ok (.getfield 23, 3) := by decide +kernel
theorem dX5_changeReachesGoal_23 : decode cX5_changeReachesGoal 23 = .ok (.iload_n 2, 1) := by decide +kernel
theorem dX5_changeReachesGoal_24 : decode cX5_changeReachesGoal 24 = .ok (.iload_n 3, 1) := by decide +kernel
theorem dX5_changeReachesGoal_25 : decode cX5_changeReachesGoal 25 = .ok (.iload 4, 2) := by decide +kernel
theorem dX5_changeReachesGoal_27 : decode cX5_changeReachesGoal 27 = .ok (.invokestatic 90, 3) := by decide +kernel
theorem dX5_changeReachesGoal_30 : decode cX5_changeReachesGoal 30 = .ok (.iload 4, 2) := by decide +kernel
theorem dX5_changeReachesGoal_32 : decode cX5_changeReachesGoal 32 = .ok (.invokevirtual 202, 3) := by decide +kernel
theorem dX5_changeReachesGoal_35 : decode cX5_changeReachesGoal 35 = .ok (.aload_n 0, 1) := by decide +kernel
theorem dX5_changeReachesGoal_36 : decode cX5_changeReachesGoal 36 = .ok (.getfield 23, 3) := by decide +kernel
theorem dX5_changeReachesGoal_39 : decode cX5_changeReachesGoal 39 = .ok (.iload_n 2, 1) := by decide +kernel
theorem dX5_changeReachesGoal_40 : decode cX5_changeReachesGoal 40 = .ok (.iload_n 3, 1) := by decide +kernel
theorem dX5_changeReachesGoal_41 : decode cX5_changeReachesGoal 41 = .ok (.invokevirtual 206, 3) := by decide +kernel
theorem dX5_changeReachesGoal_44 : decode cX5_changeReachesGoal 44 = .ok (.istore 5, 2) := by decide +kernel
theorem dX5_changeReachesGoal_46 : decode cX5_changeReachesGoal 46 = .ok (.iload 5, 2) := by decide +kernel
theorem dX5_changeReachesGoal_48 : decode cX5_changeReachesGoal 48 = .ok (.ifCond .eq 27, 3) := by decide +kernel
theorem dX5_changeReachesGoal_51 : decode cX5_changeReachesGoal 51 = .ok (.aload_n 0, 1) := by decide +kernel
theorem dX5_changeReachesGoal_52 : decode cX5_changeReachesGoal 52 = .ok (.getfield 26, 3) := by decide +kernel
theorem dX5_changeReachesGoal_55 : decode cX5_changeReachesGoal 55 = .ok (.aload_n 0, 1) := by decide +kernel
theorem dX5_changeReachesGoal_56 : decode cX5_changeReachesGoal 56 = .ok (.getfield 23, 3) := by decide +kernel
theorem dX5_changeReachesGoal_59 : decode cX5_changeReachesGoal 59 = .ok (.invokevirtual 160, 3) := by decide +kernel
theorem dX5_changeReachesGoal_62 : decode cX5_changeReachesGoal 62 = .ok (.aload_n 0, 1) := by decide +kernel
theorem dX5_changeReachesGoal_63 : decode cX5_changeReachesGoal 63 = .ok (.getfield 26, 3) := by decide +kernel
theorem dX5_changeReachesGoal_66 : decode cX5_changeReachesGoal 66 = .ok (.aload_n 0, 1) := by decide +kernel
theorem dX5_changeReachesGoal_67 : decode cX5_changeReachesGoal 67 = .ok (.getfield 23, 3) := by decide +kernel
theorem dX5_changeReachesGoal_70 : decode cX5_changeReachesGoal 70 = .ok (.invokevirtual 120, 3) := by decide +kernel
theorem dX5_changeReachesGoal_73 : decode cX5_changeReachesGoal 73 = .ok (.istore 5, 2) := by decide +kernel
theorem dX5_changeReachesGoal_75 : decode cX5_changeReachesGoal 75 = .ok (.iload_n 2, 1) := by decide +kernel
theorem dX5_changeReachesGoal_76 : decode cX5_changeReachesGoal 76 = .ok (.iload_n 3, 1) := by decide +kernel
theorem dX5_changeReachesGoal_77 : decode cX5_changeReachesGoal 77 = .ok (.invokestatic 309, 3) := by decide +kernel
theorem dX5_changeReachesGoal_80 : decode cX5_changeReachesGoal 80 = .ok (.istore 6, 2) := by decide +kernel
theorem dX5_changeReachesGoal_82 : decode cX5_changeReachesGoal 82 = .ok (.aload_n 0, 1) := by decide +kernel
theorem dX5_changeReachesGoal_83 : decode cX5_changeReachesGoal 83 = .ok (.getfield 23, 3) := by decide +kernel
theorem dX5_changeReachesGoal_86 : decode cX5_changeReachesGoal 86 = .ok (.iload_n 2, 1) := by decide +kernel
theorem dX5_changeReachesGoal_87 : decode cX5_changeReachesGoal 87 = .ok (.iload_n 3, 1) := by decide +kernel
theorem dX5_changeReachesGoal_88 : decode cX5_changeReachesGoal 88 = .ok (.aload_n 0, 1) := by decide +kernel
theorem dX5_changeReachesGoal_89 : decode cX5_changeReachesGoal 89 = .ok (.getfield 12, 3) := by decide +kernel
theorem dX5_changeReachesGoal_92 : decode cX5_changeReachesGoal 92 = .ok (.getfield 312, 3) := by decide +kernel
theorem dX5_changeReachesGoal_95 : decode cX5_changeReachesGoal 95 = .ok (.iload 6, 2) := by decide +kernel
theorem dX5_changeReachesGoal_97 : decode cX5_changeReachesGoal 97 = .ok (.iaload, 1) := by decide +kernel
theorem dX5_changeReachesGoal_98 : decode cX5_changeReachesGoal 98 = .ok (.aload_n 0, 1) := by decide +kernel
theorem dX5_changeReachesGoal_99 : decode cX5_changeReachesGoal 99 = .ok (.getfield 12, 3) := by decide +kernel
theorem dX5_changeReachesGoal_102 : decode cX5_changeReachesGoal 102 = .ok (.getfield 306, 3) := by decide +kernel
theorem dX5_changeReachesGoal_105 : decode cX5_changeReachesGoal 105 = .ok (.iload 6, 2) := by decide +kernel
theorem dX5_changeReachesGoal_107 : decode cX5_changeReachesGoal 107 = .ok (.iaload, 1) := by decide +kernel
theorem dX5_changeReachesGoal_108 : decode cX5_changeReachesGoal 108 = .ok (.invokevirtual 202, 3) := by decide +kernel
theorem dX5_changeReachesGoal_111 : decode cX5_changeReachesGoal 111 = .ok (.iload 5, 2) := by decide +kernel
theorem dX5_changeReachesGoal_113 : decode cX5_changeReachesGoal 113 = .ok (.ireturn, 1) := by decide +kernel
theorem dX5_partOfChange_0 : decode cX5_partOfChange 0 = .ok (.iload_n 0, 1) := by decide +kernel
theorem dX5_partOfChange_1 : decode cX5_partOfChange 1 = .ok (.iconst (-1), 1) := by decide +kernel
theorem dX5_partOfChange_2 : decode cX5_partOfChange 2 = .ok (.if_icmp .ne 5, 3) := by decide +kernel
theorem dX5_partOfChange_5 : decode cX5_partOfChange 5 = .ok (.iconst (-1), 1) := by decide +kernel
theorem dX5_partOfChange_6 : decode cX5_partOfChange 6 = .ok (.ireturn, 1) := by decide +kernel
theorem dX5_partOfChange_7 : decode cX5_partOfChange 7 = .ok (.iload_n 0, 1) := by decide +kernel
theorem dX5_partOfChange_8 : decode cX5_partOfChange 8 = .ok (.bipush 21, 2) := by decide +kernel
theorem dX5_partOfChange_10 : decode cX5_partOfChange 10 = .ok (.idiv, 1) := by decide +kernel
theorem dX5_partOfChange_11 : decode cX5_partOfChange 11 = .ok (.istore_n 2, 1) := by decide +kernel
theorem dX5_partOfChange_12 : decode cX5_partOfChange 12 = .ok (.iload_n 1, 1) := by decide +kernel
theorem dX5_partOfChange_13 : decode cX5_partOfChange 13 = .ok (.lookupswitch 35 #[(0, 27), (1, 31)], 27) := by decide +kernel
theorem dX5_partOfChange_40 : decode cX5_partOfChange 40 = .ok (.iload_n 2, 1) := by decide +kernel
theorem dX5_partOfChange_41 : decode cX5_partOfChange 41 = .ok (.iconst 2, 1) := by decide +kernel
theorem dX5_partOfChange_42 : decode cX5_partOfChange 42 = .ok (.idiv, 1) := by decide +kernel
theorem dX5_partOfChange_43 : decode cX5_partOfChange 43 = .ok (.ireturn, 1) := by decide +kernel
theorem dX5_partOfChange_44 : decode cX5_partOfChange 44 = .ok (.iload_n 2, 1) := by decide +kernel
theorem dX5_partOfChange_45 : decode cX5_partOfChange 45 = .ok (.iconst 2, 1) := by decide +kernel
theorem dX5_partOfChange_46 : decode cX5_partOfChange 46 = .ok (.irem, 1) := by decide +kernel
theorem dX5_partOfChange_47 : decode cX5_partOfChange 47 = .ok (.ireturn, 1) := by decide +kernel
theorem dX5_partOfChange_48 : decode cX5_partOfChange 48 = .ok (.iload_n 0, 1) := by decide +kernel
theorem dX5_partOfChange_49 : decode cX5_partOfChange 49 = .ok (.bipush 21, 2) := by decide +kernel
theorem dX5_partOfChange_51 : decode cX5_partOfChange 51 = .ok (.irem, 1) := by decide +kernel
theorem dX5_partOfChange_52 : decode cX5_partOfChange 52 = .ok (.ireturn, 1) := by decide +kernel
theorem dX5_freesJam_0 : decode cX5_freesJam 0 = .ok (.aload_n 0, 1) := by decide +kernel
theorem dX5_freesJam_1 : decode cX5_freesJam 1 = .ok (.invokevirtual 54, 3) := by decide +kernel
theorem dX5_freesJam_4 : decode cX5_freesJam 4 = .ok (.iconst 0, 1) := by decide +kernel
theorem dX5_freesJam_5 : decode cX5_freesJam 5 = .ok (.istore_n 2, 1) := by decide +kernel
theorem dX5_freesJam_6 : decode cX5_freesJam 6 = .ok (.iload_n 2, 1) := by decide +kernel
theorem dX5_freesJam_7 : decode cX5_freesJam 7 = .ok (.iconst 2, 1) := by decide +kernel
theorem dX5_freesJam_8 : decode cX5_freesJam 8 = .ok (.if_icmp .ge 20, 3) := by decide +kernel
theorem dX5_freesJam_11 : decode cX5_freesJam 11 = .ok (.aload_n 0, 1) := by decide +kernel
theorem dX5_freesJam_12 : decode cX5_freesJam 12 = .ok (.getfield 23, 3) := by decide +kernel
theorem dX5_freesJam_15 : decode cX5_freesJam 15 = .ok (.iload_n 1, 1) := by decide +kernel
theorem dX5_freesJam_16 : decode cX5_freesJam 16 = .ok (.iload_n 2, 1) := by decide +kernel
theorem dX5_freesJam_17 : decode cX5_freesJam 17 = .ok (.iconst 0, 1) := by decide +kernel
theorem dX5_freesJam_18 : decode cX5_freesJam 18 = .ok (.iconst 0, 1) := by decide +kernel
theorem dX5_freesJam_19 : decode cX5_freesJam 19 = .ok (.invokevirtual 202, 3) := by decide +kernel
theorem dX5_freesJam_22 : decode cX5_freesJam 22 = .ok (.iinc 2 1, 3) := by decide +kernel
theorem dX5_freesJam_25 : decode cX5_freesJam 25 = .ok (.goto (-19), 3) := by decide +kernel
theorem dX5_freesJam_28 : decode cX5_freesJam 28 = .ok (.aload_n 0, 1) := by decide +kernel
theorem dX5_freesJam_29 : decode cX5_freesJam 29 = .ok (.getfield 26, 3) := by decide +kernel
theorem dX5_freesJam_32 : decode cX5_freesJam 32 = .ok (.aload_n 0, 1) := by decide +kernel
theorem dX5_freesJam_33 : decode cX5_freesJam 33 = .ok (.getfield 23, 3) := by decide +kernel
theorem dX5_freesJam_36 : decode cX5_freesJam 36 = .ok (.invokevirtual 160, 3) := by decide +kernel
theorem dX5_freesJam_39 : decode cX5_freesJam 39 = .ok (.aload_n 0, 1) := by decide +kernel
theorem dX5_freesJam_40 : decode cX5_freesJam 40 = .ok (.getfield 26, 3) := by decide +kernel
theorem dX5_freesJam_43 : decode cX5_freesJam 43 = .ok (.getfield 212, 3) := by decide +kernel
theorem dX5_freesJam_46 : decode cX5_freesJam 46 = .ok (.ifCond .ne 18, 3) := by decide +kernel
theorem dX5_freesJam_49 : decode cX5_freesJam 49 = .ok (.aload_n 0, 1) := by decide +kernel
theorem dX5_freesJam_50 : decode cX5_freesJam 50 = .ok (.getfield 26, 3) := by decide +kernel
theorem dX5_freesJam_53 : decode cX5_freesJam 53 = .ok (.getfield 215, 3) := by decide +kernel
theorem dX5_freesJam_56 : decode cX5_freesJam 56 = .ok (.iconst 1, 1) := by decide +kernel
theorem dX5_freesJam_57 : decode cX5_freesJam 57 = .ok (.if_icmp .le 7, 3) := by decide +kernel
theorem dX5_freesJam_60 : decode cX5_freesJam 60 = .ok (.iconst 1, 1) := by decide +kernel
theorem dX5_freesJam_61 : decode cX5_freesJam 61 = .ok (.goto 4, 3) := by decide +kernel
theorem dX5_freesJam_64 : decode cX5_freesJam 64 = .ok (.iconst 0, 1) := by decide +kernel
theorem dX5_freesJam_65 : decode cX5_freesJam 65 = .ok (.ireturn, 1) := by decide +kernel
theorem dX5_toNumber_0 : decode cX5_toNumber 0 = .ok (.iload_n 0, 1) := by decide +kernel
theorem dX5_toNumber_1 : decode cX5_toNumber 1 = .ok (.ifCond .eq 7, 3) := by decide +kernel
theorem dX5_toNumber_4 : decode cX5_toNumber 4 = .ok (.iconst 1, 1) := by decide +kernel
theorem dX5_toNumber_5 : decode cX5_toNumber 5 = .ok (.goto 4, 3) := by decide +kernel
theorem dX5_toNumber_8 : decode cX5_toNumber 8 = .ok (.iconst 0, 1) := by decide +kernel
theorem dX5_toNumber_9 : decode cX5_toNumber 9 = .ok (.ireturn, 1) := by decide +kernel
theorem dX5_commonDivisor_0 : decode cX5_commonDivisor 0 = .ok (.lload_n 0, 1) := by decide +kernel
theorem dX5_commonDivisor_1 : decode cX5_commonDivisor 1 = .ok (.lconst 0, 1) := by decide +kernel
theorem dX5_commonDivisor_2 : decode cX5_commonDivisor 2 = .ok (.lcmp, 1) := by decide +kernel
theorem dX5_commonDivisor_3 : decode cX5_commonDivisor 3 = .ok (.ifCond .ge 8, 3) := by decide +kernel
theorem dX5_commonDivisor_6 : decode cX5_commonDivisor 6 = .ok (.lload_n 0, 1) := by decide +kernel
theorem dX5_commonDivisor_7 : decode cX5_commonDivisor 7 = .ok (.lneg, 1) := by decide +kernel
theorem dX5_commonDivisor_8 : decode cX5_commonDivisor 8 = .ok (.goto 4, 3) := by decide +kernel
theorem dX5_commonDivisor_11 : decode cX5_commonDivisor 11 = .ok (.lload_n 0, 1) := by decide +kernel
theorem dX5_commonDivisor_12 : decode cX5_commonDivisor 12 = .ok (.lstore 4, 2) := by decide +kernel
theorem dX5_commonDivisor_14 : decode cX5_commonDivisor 14 = .ok (.lload_n 2, 1) := by decide +kernel
theorem dX5_commonDivisor_15 : decode cX5_commonDivisor 15 = .ok (.lconst 0, 1) := by decide +kernel
theorem dX5_commonDivisor_16 : decode cX5_commonDivisor 16 = .ok (.lcmp, 1) := by decide +kernel
theorem dX5_commonDivisor_17 : decode cX5_commonDivisor 17 = .ok (.ifCond .ge 8, 3) := by decide +kernel
theorem dX5_commonDivisor_20 : decode cX5_commonDivisor 20 = .ok (.lload_n 2, 1) := by decide +kernel
theorem dX5_commonDivisor_21 : decode cX5_commonDivisor 21 = .ok (.lneg, 1) := by decide +kernel
theorem dX5_commonDivisor_22 : decode cX5_commonDivisor 22 = .ok (.goto 4, 3) := by decide +kernel
theorem dX5_commonDivisor_25 : decode cX5_commonDivisor 25 = .ok (.lload_n 2, 1) := by decide +kernel
theorem dX5_commonDivisor_26 : decode cX5_commonDivisor 26 = .ok (.lstore 6, 2) := by decide +kernel
theorem dX5_commonDivisor_28 : decode cX5_commonDivisor 28 = .ok (.iconst 0, 1) := by decide +kernel
theorem dX5_commonDivisor_29 : decode cX5_commonDivisor 29 = .ok (.istore 8, 2) := by decide +kernel
theorem dX5_commonDivisor_31 : decode cX5_commonDivisor 31 = .ok (.iload 8, 2) := by decide +kernel
theorem dX5_commonDivisor_33 : decode cX5_commonDivisor 33 = .ok (.sipush 200, 3) := by decide +kernel
theorem dX5_commonDivisor_36 : decode cX5_commonDivisor 36 = .ok (.if_icmp .ge 31, 3) := by decide +kernel
theorem dX5_commonDivisor_39 : decode cX5_commonDivisor 39 = .ok (.lload 6, 2) := by decide +kernel
theorem dX5_commonDivisor_41 : decode cX5_commonDivisor 41 = .ok (.lconst 0, 1) := by decide +kernel
theorem dX5_commonDivisor_42 : decode cX5_commonDivisor 42 = .ok (.lcmp, 1) := by decide +kernel
theorem dX5_commonDivisor_43 : decode cX5_commonDivisor 43 = .ok (.ifCond .eq 24, 3) := by decide +kernel
theorem dX5_commonDivisor_46 : decode cX5_commonDivisor 46 = .ok (.lload 4, 2) := by decide +kernel
theorem dX5_commonDivisor_48 : decode cX5_commonDivisor 48 = .ok (.lload 6, 2) := by decide +kernel
theorem dX5_commonDivisor_50 : decode cX5_commonDivisor 50 = .ok (.lrem, 1) := by decide +kernel
theorem dX5_commonDivisor_51 : decode cX5_commonDivisor 51 = .ok (.lstore 9, 2) := by decide +kernel
theorem dX5_commonDivisor_53 : decode cX5_commonDivisor 53 = .ok (.lload 6, 2) := by decide +kernel
theorem dX5_commonDivisor_55 : decode cX5_commonDivisor 55 = .ok (.lstore 4, 2) := by decide +kernel
theorem dX5_commonDivisor_57 : decode cX5_commonDivisor 57 = .ok (.lload 9, 2) := by decide +kernel
theorem dX5_commonDivisor_59 : decode cX5_commonDivisor 59 = .ok (.lstore 6, 2) := by decide +kernel
theorem dX5_commonDivisor_61 : decode cX5_commonDivisor 61 = .ok (.iinc 8 1, 3) := by decide +kernel
theorem dX5_commonDivisor_64 : decode cX5_commonDivisor 64 = .ok (.goto (-33), 3) := by decide +kernel
theorem dX5_commonDivisor_67 : decode cX5_commonDivisor 67 = .ok (.lload 4, 2) := by decide +kernel
theorem dX5_commonDivisor_69 : decode cX5_commonDivisor 69 = .ok (.lconst 0, 1) := by decide +kernel
theorem dX5_commonDivisor_70 : decode cX5_commonDivisor 70 = .ok (.lcmp, 1) := by decide +kernel
theorem dX5_commonDivisor_71 : decode cX5_commonDivisor 71 = .ok (.ifCond .le 8, 3) := by decide +kernel
theorem dX5_commonDivisor_74 : decode cX5_commonDivisor 74 = .ok (.lload 4, 2) := by decide +kernel
theorem dX5_commonDivisor_76 : decode cX5_commonDivisor 76 = .ok (.goto 4, 3) := by decide +kernel
theorem dX5_commonDivisor_79 : decode cX5_commonDivisor 79 = .ok (.lconst 1, 1) := by decide +kernel
theorem dX5_commonDivisor_80 : decode cX5_commonDivisor 80 = .ok (.lreturn, 1) := by decide +kernel
theorem dL_cell_0 : decode cL_cell 0 = .ok (.iload_n 1, 1) := by decide +kernel
theorem dL_cell_1 : decode cL_cell 1 = .ok (.aload_n 0, 1) := by decide +kernel
theorem dL_cell_2 : decode cL_cell 2 = .ok (.arraylength, 1) := by decide +kernel
theorem dL_cell_3 : decode cL_cell 3 = .ok (.if_icmp .ge 9, 3) := by decide +kernel
theorem dL_cell_6 : decode cL_cell 6 = .ok (.aload_n 0, 1) := by decide +kernel
theorem dL_cell_7 : decode cL_cell 7 = .ok (.iload_n 1, 1) := by decide +kernel
theorem dL_cell_8 : decode cL_cell 8 = .ok (.iaload, 1) := by decide +kernel
theorem dL_cell_9 : decode cL_cell 9 = .ok (.goto 15, 3) := by decide +kernel
theorem dL_cell_12 : decode cL_cell 12 = .ok (.sipush 7919, 3) := by decide +kernel
theorem dL_cell_15 : decode cL_cell 15 = .ok (.iload_n 1, 1) := by decide +kernel
theorem dL_cell_16 : decode cL_cell 16 = .ok (.iconst 3, 1) := by decide +kernel
theorem dL_cell_17 : decode cL_cell 17 = .ok (.iadd, 1) := by decide +kernel
theorem dL_cell_18 : decode cL_cell 18 = .ok (.imul, 1) := by decide +kernel
theorem dL_cell_19 : decode cL_cell 19 = .ok (.iload_n 1, 1) := by decide +kernel
theorem dL_cell_20 : decode cL_cell 20 = .ok (.bipush 11, 2) := by decide +kernel
theorem dL_cell_22 : decode cL_cell 22 = .ok (.iadd, 1) := by decide +kernel
theorem dL_cell_23 : decode cL_cell 23 = .ok (.imul, 1) := by decide +kernel
theorem dL_cell_24 : decode cL_cell 24 = .ok (.ireturn, 1) := by decide +kernel
theorem dL_low_0 : decode cL_low 0 = .ok (.iload_n 0, 1) := by decide +kernel
theorem dL_low_1 : decode cL_low 1 = .ok (.ldc 7, 2) := by decide +kernel
theorem dL_low_3 : decode cL_low 3 = .ok (.iand, 1) := by decide +kernel
theorem dL_low_4 : decode cL_low 4 = .ok (.iload_n 1, 1) := by decide +kernel
theorem dL_low_5 : decode cL_low 5 = .ok (.irem, 1) := by decide +kernel
theorem dL_low_6 : decode cL_low 6 = .ok (.ireturn, 1) := by decide +kernel
theorem dL_does_0 : decode cL_does 0 = .ok (.aload_n 0, 1) := by decide +kernel
theorem dL_does_1 : decode cL_does 1 = .ok (.iconst 0, 1) := by decide +kernel
theorem dL_does_2 : decode cL_does 2 = .ok (.invokevirtual 8, 3) := by decide +kernel
theorem dL_does_5 : decode cL_does 5 = .ok (.istore_n 2, 1) := by decide +kernel
theorem dL_does_6 : decode cL_does 6 = .ok (.iload_n 2, 1) := by decide +kernel
theorem dL_does_7 : decode cL_does 7 = .ok (.ifCond .ne 7, 3) := by decide +kernel
theorem dL_does_10 : decode cL_does 10 = .ok (.iconst 0, 1) := by decide +kernel
theorem dL_does_11 : decode cL_does 11 = .ok (.goto 10, 3) := by decide +kernel
theorem dL_does_14 : decode cL_does 14 = .ok (.iload_n 1, 1) := by decide +kernel
theorem dL_does_15 : decode cL_does 15 = .ok (.iconst 4, 1) := by decide +kernel
theorem dL_does_16 : decode cL_does 16 = .ok (.ishr, 1) := by decide +kernel
theorem dL_does_17 : decode cL_does 17 = .ok (.iload_n 2, 1) := by decide +kernel
theorem dL_does_18 : decode cL_does 18 = .ok (.invokestatic 14, 3) := by decide +kernel
theorem dL_does_21 : decode cL_does 21 = .ok (.istore_n 3, 1) := by decide +kernel
theorem dL_does_22 : decode cL_does 22 = .ok (.iload_n 1, 1) := by decide +kernel
theorem dL_does_23 : decode cL_does 23 = .ok (.bipush 9, 2) := by decide +kernel
theorem dL_does_25 : decode cL_does 25 = .ok (.ishr, 1) := by decide +kernel
theorem dL_does_26 : decode cL_does 26 = .ok (.iconst 1, 1) := by decide +kernel
theorem dL_does_27 : decode cL_does 27 = .ok (.iand, 1) := by decide +kernel
theorem dL_does_28 : decode cL_does 28 = .ok (.istore 4, 2) := by decide +kernel
theorem dL_does_30 : decode cL_does 30 = .ok (.iload_n 1, 1) := by decide +kernel
theorem dL_does_31 : decode cL_does 31 = .ok (.bipush 10, 2) := by decide +kernel
theorem dL_does_33 : decode cL_does 33 = .ok (.ishr, 1) := by decide +kernel
theorem dL_does_34 : decode cL_does 34 = .ok (.bipush 21, 2) := by decide +kernel
theorem dL_does_36 : decode cL_does 36 = .ok (.invokestatic 14, 3) := by decide +kernel
theorem dL_does_39 : decode cL_does 39 = .ok (.istore 5, 2) := by decide +kernel
theorem dL_does_41 : decode cL_does 41 = .ok (.iload_n 1, 1) := by decide +kernel
theorem dL_does_42 : decode cL_does 42 = .ok (.bipush 15, 2) := by decide +kernel
theorem dL_does_44 : decode cL_does 44 = .ok (.iand, 1) := by decide +kernel
theorem dL_does_45 : decode cL_does 45 = .ok (.tableswitch 151 0 3 #[31, 55, 92, 128], 31) := by decide +kernel
theorem dL_does_76 : decode cL_does 76 = .ok (.iload_n 2, 1) := by decide +kernel
theorem dL_does_77 : decode cL_does 77 = .ok (.ifCond .le 21, 3) := by decide +kernel
theorem dL_does_80 : decode cL_does 80 = .ok (.iload_n 1, 1) := by decide +kernel
theorem dL_does_81 : decode cL_does 81 = .ok (.bipush 8, 2) := by decide +kernel
theorem dL_does_83 : decode cL_does 83 = .ok (.ishr, 1) := by decide +kernel
theorem dL_does_84 : decode cL_does 84 = .ok (.iconst 1, 1) := by decide +kernel
theorem dL_does_85 : decode cL_does 85 = .ok (.iand, 1) := by decide +kernel
theorem dL_does_86 : decode cL_does 86 = .ok (.iconst 1, 1) := by decide +kernel
theorem dL_does_87 : decode cL_does 87 = .ok (.if_icmp .ne 11, 3) := by decide +kernel
theorem dL_does_90 : decode cL_does 90 = .ok (.aload_n 0, 1) := by decide +kernel
theorem dL_does_91 : decode cL_does 91 = .ok (.iload_n 3, 1) := by decide +kernel
theorem dL_does_92 : decode cL_does 92 = .ok (.invokevirtual 20, 3) := by decide +kernel
theorem dL_does_95 : decode cL_does 95 = .ok (.goto 4, 3) := by decide +kernel
theorem dL_does_98 : decode cL_does 98 = .ok (.iconst 0, 1) := by decide +kernel
theorem dL_does_99 : decode cL_does 99 = .ok (.ireturn, 1) := by decide +kernel
theorem dL_does_100 : decode cL_does 100 = .ok (.iload_n 2, 1) := by decide +kernel
theorem dL_does_101 : decode cL_does 101 = .ok (.ifCond .le 34, 3) := by decide +kernel
theorem dL_does_104 : decode cL_does 104 = .ok (.aload_n 0, 1) := by decide +kernel
theorem dL_does_105 : decode cL_does 105 = .ok (.iload_n 3, 1) := by decide +kernel
theorem dL_does_106 : decode cL_does 106 = .ok (.iload_n 1, 1) := by decide +kernel
theorem dL_does_107 : decode cL_does 107 = .ok (.bipush 8, 2) := by decide +kernel
theorem dL_does_109 : decode cL_does 109 = .ok (.ishr, 1) := by decide +kernel
theorem dL_does_110 : decode cL_does 110 = .ok (.bipush 41, 2) := by decide +kernel
theorem dL_does_112 : decode cL_does 112 = .ok (.invokestatic 14, 3) := by decide +kernel
theorem dL_does_115 : decode cL_does 115 = .ok (.bipush 20, 2) := by decide +kernel
theorem dL_does_117 : decode cL_does 117 = .ok (.isub, 1) := by decide +kernel
theorem dL_does_118 : decode cL_does 118 = .ok (.iconst 1, 1) := by decide +kernel
theorem dL_does_119 : decode cL_does 119 = .ok (.iload_n 1, 1) := by decide +kernel
theorem dL_does_120 : decode cL_does 120 = .ok (.bipush 13, 2) := by decide +kernel
theorem dL_does_122 : decode cL_does 122 = .ok (.ishr, 1) := by decide +kernel
theorem dL_does_123 : decode cL_does 123 = .ok (.bipush 20, 2) := by decide +kernel
theorem dL_does_125 : decode cL_does 125 = .ok (.invokestatic 14, 3) := by decide +kernel
theorem dL_does_128 : decode cL_does 128 = .ok (.iadd, 1) := by decide +kernel
theorem dL_does_129 : decode cL_does 129 = .ok (.invokevirtual 23, 3) := by decide +kernel
theorem dL_does_132 : decode cL_does 132 = .ok (.goto 4, 3) := by decide +kernel
theorem dL_does_135 : decode cL_does 135 = .ok (.iconst 0, 1) := by decide +kernel
theorem dL_does_136 : decode cL_does 136 = .ok (.ireturn, 1) := by decide +kernel
theorem dL_does_137 : decode cL_does 137 = .ok (.iload_n 2, 1) := by decide +kernel
theorem dL_does_138 : decode cL_does 138 = .ok (.ifCond .le 33, 3) := by decide +kernel
theorem dL_does_141 : decode cL_does 141 = .ok (.aload_n 0, 1) := by decide +kernel
theorem dL_does_142 : decode cL_does 142 = .ok (.iconst 0, 1) := by decide +kernel
theorem dL_does_143 : decode cL_does 143 = .ok (.invokevirtual 27, 3) := by decide +kernel
theorem dL_does_146 : decode cL_does 146 = .ok (.ifCond .lt 25, 3) := by decide +kernel
theorem dL_does_149 : decode cL_does 149 = .ok (.aload_n 0, 1) := by decide +kernel
theorem dL_does_150 : decode cL_does 150 = .ok (.aload_n 0, 1) := by decide +kernel
theorem dL_does_151 : decode cL_does 151 = .ok (.iconst 0, 1) := by decide +kernel
theorem dL_does_152 : decode cL_does 152 = .ok (.invokevirtual 27, 3) := by decide +kernel
theorem dL_does_155 : decode cL_does 155 = .ok (.aload_n 0, 1) := by decide +kernel
theorem dL_does_156 : decode cL_does 156 = .ok (.iconst 1, 1) := by decide +kernel
theorem dL_does_157 : decode cL_does 157 = .ok (.invokevirtual 27, 3) := by decide +kernel
theorem dL_does_160 : decode cL_does 160 = .ok (.aload_n 0, 1) := by decide +kernel
theorem dL_does_161 : decode cL_does 161 = .ok (.iconst 2, 1) := by decide +kernel
theorem dL_does_162 : decode cL_does 162 = .ok (.invokevirtual 27, 3) := by decide +kernel
theorem dL_does_165 : decode cL_does 165 = .ok (.invokevirtual 30, 3) := by decide +kernel
theorem dL_does_168 : decode cL_does 168 = .ok (.goto 4, 3) := by decide +kernel
theorem dL_does_171 : decode cL_does 171 = .ok (.iconst 0, 1) := by decide +kernel
theorem dL_does_172 : decode cL_does 172 = .ok (.ireturn, 1) := by decide +kernel
theorem dL_does_173 : decode cL_does 173 = .ok (.iload_n 1, 1) := by decide +kernel
theorem dL_does_174 : decode cL_does 174 = .ok (.iconst 4, 1) := by decide +kernel
theorem dL_does_175 : decode cL_does 175 = .ok (.ishr, 1) := by decide +kernel
theorem dL_does_176 : decode cL_does 176 = .ok (.iconst 3, 1) := by decide +kernel
theorem dL_does_177 : decode cL_does 177 = .ok (.iand, 1) := by decide +kernel
theorem dL_does_178 : decode cL_does 178 = .ok (.ifCond .ne 16, 3) := by decide +kernel
theorem dL_does_181 : decode cL_does 181 = .ok (.aload_n 0, 1) := by decide +kernel
theorem dL_does_182 : decode cL_does 182 = .ok (.iload_n 1, 1) := by decide +kernel
theorem dL_does_183 : decode cL_does 183 = .ok (.bipush 6, 2) := by decide +kernel
theorem dL_does_185 : decode cL_does 185 = .ok (.ishr, 1) := by decide +kernel
theorem dL_does_186 : decode cL_does 186 = .ok (.iconst 1, 1) := by decide +kernel
theorem dL_does_187 : decode cL_does 187 = .ok (.iand, 1) := by decide +kernel
theorem dL_does_188 : decode cL_does 188 = .ok (.invokevirtual 33, 3) := by decide +kernel
theorem dL_does_191 : decode cL_does 191 = .ok (.goto 4, 3) := by decide +kernel
theorem dL_does_194 : decode cL_does 194 = .ok (.iconst 0, 1) := by decide +kernel
theorem dL_does_195 : decode cL_does 195 = .ok (.ireturn, 1) := by decide +kernel
theorem dL_does_196 : decode cL_does 196 = .ok (.iload_n 2, 1) := by decide +kernel
theorem dL_does_197 : decode cL_does 197 = .ok (.ifCond .le 28, 3) := by decide +kernel
theorem dL_does_200 : decode cL_does 200 = .ok (.aload_n 0, 1) := by decide +kernel
theorem dL_does_201 : decode cL_does 201 = .ok (.iload_n 3, 1) := by decide +kernel
theorem dL_does_202 : decode cL_does 202 = .ok (.iload 4, 2) := by decide +kernel
theorem dL_does_204 : decode cL_does 204 = .ok (.iload 5, 2) := by decide +kernel
theorem dL_does_206 : decode cL_does 206 = .ok (.iconst 0, 1) := by decide +kernel
theorem dL_does_207 : decode cL_does 207 = .ok (.invokevirtual 36, 3) := by decide +kernel
theorem dL_does_210 : decode cL_does 210 = .ok (.ifCond .lt 15, 3) := by decide +kernel
theorem dL_does_213 : decode cL_does 213 = .ok (.aload_n 0, 1) := by decide +kernel
theorem dL_does_214 : decode cL_does 214 = .ok (.iload_n 3, 1) := by decide +kernel
theorem dL_does_215 : decode cL_does 215 = .ok (.iload 4, 2) := by decide +kernel
theorem dL_does_217 : decode cL_does 217 = .ok (.iload 5, 2) := by decide +kernel
theorem dL_does_219 : decode cL_does 219 = .ok (.invokevirtual 30, 3) := by decide +kernel
theorem dL_does_222 : decode cL_does 222 = .ok (.goto 4, 3) := by decide +kernel
theorem dL_does_225 : decode cL_does 225 = .ok (.iconst 0, 1) := by decide +kernel
theorem dL_does_226 : decode cL_does 226 = .ok (.ireturn, 1) := by decide +kernel
theorem dL_fits_0 : decode cL_fits 0 = .ok (.aload_n 0, 1) := by decide +kernel
theorem dL_fits_1 : decode cL_fits 1 = .ok (.iconst 0, 1) := by decide +kernel
theorem dL_fits_2 : decode cL_fits 2 = .ok (.invokevirtual 8, 3) := by decide +kernel
theorem dL_fits_5 : decode cL_fits 5 = .ok (.istore_n 2, 1) := by decide +kernel
theorem dL_fits_6 : decode cL_fits 6 = .ok (.iload_n 1, 1) := by decide +kernel
theorem dL_fits_7 : decode cL_fits 7 = .ok (.iload_n 2, 1) := by decide +kernel
theorem dL_fits_8 : decode cL_fits 8 = .ok (.invokestatic 14, 3) := by decide +kernel
theorem dL_fits_11 : decode cL_fits 11 = .ok (.istore_n 3, 1) := by decide +kernel
theorem dL_fits_12 : decode cL_fits 12 = .ok (.iload_n 1, 1) := by decide +kernel
theorem dL_fits_13 : decode cL_fits 13 = .ok (.iconst 4, 1) := by decide +kernel
theorem dL_fits_14 : decode cL_fits 14 = .ok (.ishr, 1) := by decide +kernel
theorem dL_fits_15 : decode cL_fits 15 = .ok (.iload_n 2, 1) := by decide +kernel
theorem dL_fits_16 : decode cL_fits 16 = .ok (.invokestatic 14, 3) := by decide +kernel
theorem dL_fits_19 : decode cL_fits 19 = .ok (.istore 4, 2) := by decide +kernel
theorem dL_fits_21 : decode cL_fits 21 = .ok (.iload_n 1, 1) := by decide +kernel
theorem dL_fits_22 : decode cL_fits 22 = .ok (.bipush 8, 2) := by decide +kernel
theorem dL_fits_24 : decode cL_fits 24 = .ok (.ishr, 1) := by decide +kernel
theorem dL_fits_25 : decode cL_fits 25 = .ok (.iconst 1, 1) := by decide +kernel
theorem dL_fits_26 : decode cL_fits 26 = .ok (.iand, 1) := by decide +kernel
theorem dL_fits_27 : decode cL_fits 27 = .ok (.istore 5, 2) := by decide +kernel
theorem dL_fits_29 : decode cL_fits 29 = .ok (.aload_n 0, 1) := by decide +kernel
theorem dL_fits_30 : decode cL_fits 30 = .ok (.iload_n 3, 1) := by decide +kernel
theorem dL_fits_31 : decode cL_fits 31 = .ok (.iconst 2, 1) := by decide +kernel
theorem dL_fits_32 : decode cL_fits 32 = .ok (.iload 5, 2) := by decide +kernel
theorem dL_fits_34 : decode cL_fits 34 = .ok (.iadd, 1) := by decide +kernel
theorem dL_fits_35 : decode cL_fits 35 = .ok (.invokevirtual 40, 3) := by decide +kernel
theorem dL_fits_38 : decode cL_fits 38 = .ok (.istore 6, 2) := by decide +kernel
theorem dL_fits_40 : decode cL_fits 40 = .ok (.bipush (-9), 2) := by decide +kernel
theorem dL_fits_42 : decode cL_fits 42 = .ok (.istore 7, 2) := by decide +kernel
theorem dL_fits_44 : decode cL_fits 44 = .ok (.iconst 1, 1) := by decide +kernel
theorem dL_fits_45 : decode cL_fits 45 = .ok (.istore 8, 2) := by decide +kernel
theorem dL_fits_47 : decode cL_fits 47 = .ok (.iload 8, 2) := by decide +kernel
theorem dL_fits_49 : decode cL_fits 49 = .ok (.bipush 21, 2) := by decide +kernel
theorem dL_fits_51 : decode cL_fits 51 = .ok (.if_icmp .ge 49, 3) := by decide +kernel
theorem dL_fits_54 : decode cL_fits 54 = .ok (.iload 6, 2) := by decide +kernel
theorem dL_fits_56 : decode cL_fits 56 = .ok (.ifCond .ne 44, 3) := by decide +kernel
theorem dL_fits_59 : decode cL_fits 59 = .ok (.iload_n 3, 1) := by decide +kernel
theorem dL_fits_60 : decode cL_fits 60 = .ok (.iload 4, 2) := by decide +kernel
theorem dL_fits_62 : decode cL_fits 62 = .ok (.if_icmp .eq 38, 3) := by decide +kernel
theorem dL_fits_65 : decode cL_fits 65 = .ok (.iload 7, 2) := by decide +kernel
theorem dL_fits_67 : decode cL_fits 67 = .ok (.ifCond .ge 27, 3) := by decide +kernel
theorem dL_fits_70 : decode cL_fits 70 = .ok (.aload_n 0, 1) := by decide +kernel
theorem dL_fits_71 : decode cL_fits 71 = .ok (.iload_n 3, 1) := by decide +kernel
theorem dL_fits_72 : decode cL_fits 72 = .ok (.iload 5, 2) := by decide +kernel
theorem dL_fits_74 : decode cL_fits 74 = .ok (.iload 8, 2) := by decide +kernel
theorem dL_fits_76 : decode cL_fits 76 = .ok (.iconst 0, 1) := by decide +kernel
theorem dL_fits_77 : decode cL_fits 77 = .ok (.invokevirtual 36, 3) := by decide +kernel
theorem dL_fits_80 : decode cL_fits 80 = .ok (.ifCond .le 14, 3) := by decide +kernel
theorem dL_fits_83 : decode cL_fits 83 = .ok (.aload_n 0, 1) := by decide +kernel
theorem dL_fits_84 : decode cL_fits 84 = .ok (.iload_n 3, 1) := by decide +kernel
theorem dL_fits_85 : decode cL_fits 85 = .ok (.iload 5, 2) := by decide +kernel
theorem dL_fits_87 : decode cL_fits 87 = .ok (.iload 8, 2) := by decide +kernel
theorem dL_fits_89 : decode cL_fits 89 = .ok (.invokevirtual 30, 3) := by decide +kernel
theorem dL_fits_92 : decode cL_fits 92 = .ok (.istore 7, 2) := by decide +kernel
theorem dL_fits_94 : decode cL_fits 94 = .ok (.iinc 8 1, 3) := by decide +kernel
theorem dL_fits_97 : decode cL_fits 97 = .ok (.goto (-50), 3) := by decide +kernel
theorem dL_fits_100 : decode cL_fits 100 = .ok (.iload 7, 2) := by decide +kernel
theorem dL_fits_102 : decode cL_fits 102 = .ok (.ireturn, 1) := by decide +kernel
theorem dL_arePegsSo_0 : decode cL_arePegsSo 0 = .ok (.aload_n 0, 1) := by decide +kernel
theorem dL_arePegsSo_1 : decode cL_arePegsSo 1 = .ok (.bipush 6, 2) := by decide +kernel
theorem dL_arePegsSo_3 : decode cL_arePegsSo 3 = .ok (.invokevirtual 8, 3) := by decide +kernel
theorem dL_arePegsSo_6 : decode cL_arePegsSo 6 = .ok (.iconst 1, 1) := by decide +kernel
theorem dL_arePegsSo_7 : decode cL_arePegsSo 7 = .ok (.if_icmp .ne 7, 3) := by decide +kernel
theorem dL_arePegsSo_10 : decode cL_arePegsSo 10 = .ok (.iconst 1, 1) := by decide +kernel
theorem dL_arePegsSo_11 : decode cL_arePegsSo 11 = .ok (.goto 4, 3) := by decide +kernel
theorem dL_arePegsSo_14 : decode cL_arePegsSo 14 = .ok (.iconst 0, 1) := by decide +kernel
theorem dL_arePegsSo_15 : decode cL_arePegsSo 15 = .ok (.istore_n 1, 1) := by decide +kernel
theorem dL_arePegsSo_16 : decode cL_arePegsSo 16 = .ok (.aload_n 0, 1) := by decide +kernel
theorem dL_arePegsSo_17 : decode cL_arePegsSo 17 = .ok (.iconst 4, 1) := by decide +kernel
theorem dL_arePegsSo_18 : decode cL_arePegsSo 18 = .ok (.invokevirtual 8, 3) := by decide +kernel
theorem dL_arePegsSo_21 : decode cL_arePegsSo 21 = .ok (.istore_n 2, 1) := by decide +kernel
theorem dL_arePegsSo_22 : decode cL_arePegsSo 22 = .ok (.iconst 0, 1) := by decide +kernel
theorem dL_arePegsSo_23 : decode cL_arePegsSo 23 = .ok (.istore_n 3, 1) := by decide +kernel
theorem dL_arePegsSo_24 : decode cL_arePegsSo 24 = .ok (.iconst 0, 1) := by decide +kernel
theorem dL_arePegsSo_25 : decode cL_arePegsSo 25 = .ok (.istore 4, 2) := by decide +kernel
theorem dL_arePegsSo_27 : decode cL_arePegsSo 27 = .ok (.aload_n 0, 1) := by decide +kernel
theorem dL_arePegsSo_28 : decode cL_arePegsSo 28 = .ok (.invokevirtual 43, 3) := by decide +kernel
theorem dL_arePegsSo_31 : decode cL_arePegsSo 31 = .ok (.lstore 5, 2) := by decide +kernel
theorem dL_arePegsSo_33 : decode cL_arePegsSo 33 = .ok (.iconst 0, 1) := by decide +kernel
theorem dL_arePegsSo_34 : decode cL_arePegsSo 34 = .ok (.istore 7, 2) := by decide +kernel
theorem dL_arePegsSo_36 : decode cL_arePegsSo 36 = .ok (.iload 7, 2) := by decide +kernel
theorem dL_arePegsSo_38 : decode cL_arePegsSo 38 = .ok (.aload_n 0, 1) := by decide +kernel
theorem dL_arePegsSo_39 : decode cL_arePegsSo 39 = .ok (.iconst 0, 1) := by decide +kernel
theorem dL_arePegsSo_40 : decode cL_arePegsSo 40 = .ok (.invokevirtual 8, 3) := by decide +kernel
theorem dL_arePegsSo_43 : decode cL_arePegsSo 43 = .ok (.if_icmp .ge 639, 3) := by decide +kernel
theorem dL_arePegsSo_46 : decode cL_arePegsSo 46 = .ok (.aload_n 0, 1) := by decide +kernel
theorem dL_arePegsSo_47 : decode cL_arePegsSo 47 = .ok (.iload 7, 2) := by decide +kernel
theorem dL_arePegsSo_49 : decode cL_arePegsSo 49 = .ok (.iconst 0, 1) := by decide +kernel
theorem dL_arePegsSo_50 : decode cL_arePegsSo 50 = .ok (.invokevirtual 47, 3) := by decide +kernel
theorem dL_arePegsSo_53 : decode cL_arePegsSo 53 = .ok (.lstore 8, 2) := by decide +kernel
theorem dL_arePegsSo_55 : decode cL_arePegsSo 55 = .ok (.aload_n 0, 1) := by decide +kernel
theorem dL_arePegsSo_56 : decode cL_arePegsSo 56 = .ok (.iload 7, 2) := by decide +kernel
theorem dL_arePegsSo_58 : decode cL_arePegsSo 58 = .ok (.iconst 1, 1) := by decide +kernel
theorem dL_arePegsSo_59 : decode cL_arePegsSo 59 = .ok (.invokevirtual 47, 3) := by decide +kernel
theorem dL_arePegsSo_62 : decode cL_arePegsSo 62 = .ok (.lstore 10, 2) := by decide +kernel
theorem dL_arePegsSo_64 : decode cL_arePegsSo 64 = .ok (.aload_n 0, 1) := by decide +kernel
theorem dL_arePegsSo_65 : decode cL_arePegsSo 65 = .ok (.iload 7, 2) := by decide +kernel
theorem dL_arePegsSo_67 : decode cL_arePegsSo 67 = .ok (.bipush 7, 2) := by decide +kernel
theorem dL_arePegsSo_69 : decode cL_arePegsSo 69 = .ok (.invokevirtual 40, 3) := by decide +kernel
theorem dL_arePegsSo_72 : decode cL_arePegsSo 72 = .ok (.istore 12, 2) := by decide +kernel
theorem dL_arePegsSo_74 : decode cL_arePegsSo 74 = .ok (.iload_n 3, 1) := by decide +kernel
theorem dL_arePegsSo_75 : decode cL_arePegsSo 75 = .ok (.aload_n 0, 1) := by decide +kernel
theorem dL_arePegsSo_76 : decode cL_arePegsSo 76 = .ok (.iload 7, 2) := by decide +kernel
theorem dL_arePegsSo_78 : decode cL_arePegsSo 78 = .ok (.bipush 8, 2) := by decide +kernel
theorem dL_arePegsSo_80 : decode cL_arePegsSo 80 = .ok (.invokevirtual 40, 3) := by decide +kernel
theorem dL_arePegsSo_83 : decode cL_arePegsSo 83 = .ok (.iadd, 1) := by decide +kernel
theorem dL_arePegsSo_84 : decode cL_arePegsSo 84 = .ok (.istore_n 3, 1) := by decide +kernel
theorem dL_arePegsSo_85 : decode cL_arePegsSo 85 = .ok (.lload 10, 2) := by decide +kernel
theorem dL_arePegsSo_87 : decode cL_arePegsSo 87 = .ok (.lconst 0, 1) := by decide +kernel
theorem dL_arePegsSo_88 : decode cL_arePegsSo 88 = .ok (.lcmp, 1) := by decide +kernel
theorem dL_arePegsSo_89 : decode cL_arePegsSo 89 = .ok (.ifCond .le 95, 3) := by decide +kernel
theorem dL_arePegsSo_92 : decode cL_arePegsSo 92 = .ok (.iload 12, 2) := by decide +kernel
theorem dL_arePegsSo_94 : decode cL_arePegsSo 94 = .ok (.lload 8, 2) := by decide +kernel
theorem dL_arePegsSo_96 : decode cL_arePegsSo 96 = .ok (.lconst 0, 1) := by decide +kernel
theorem dL_arePegsSo_97 : decode cL_arePegsSo 97 = .ok (.lcmp, 1) := by decide +kernel
theorem dL_arePegsSo_98 : decode cL_arePegsSo 98 = .ok (.ifCond .ne 7, 3) := by decide +kernel
theorem dL_arePegsSo_101 : decode cL_arePegsSo 101 = .ok (.iconst 0, 1) := by decide +kernel
theorem dL_arePegsSo_102 : decode cL_arePegsSo 102 = .ok (.goto 15, 3) := by decide +kernel
theorem dL_arePegsSo_105 : decode cL_arePegsSo 105 = .ok (.lload 8, 2) := by decide +kernel
theorem dL_arePegsSo_107 : decode cL_arePegsSo 107 = .ok (.lconst 0, 1) := by decide +kernel
theorem dL_arePegsSo_108 : decode cL_arePegsSo 108 = .ok (.lcmp, 1) := by decide +kernel
theorem dL_arePegsSo_109 : decode cL_arePegsSo 109 = .ok (.ifCond .le 7, 3) := by decide +kernel
theorem dL_arePegsSo_112 : decode cL_arePegsSo 112 = .ok (.iconst 1, 1) := by decide +kernel
theorem dL_arePegsSo_113 : decode cL_arePegsSo 113 = .ok (.goto 4, 3) := by decide +kernel
theorem dL_arePegsSo_116 : decode cL_arePegsSo 116 = .ok (.iconst 2, 1) := by decide +kernel
theorem dL_arePegsSo_117 : decode cL_arePegsSo 117 = .ok (.if_icmp .ne 67, 3) := by decide +kernel
theorem dL_arePegsSo_120 : decode cL_arePegsSo 120 = .ok (.lload 8, 2) := by decide +kernel
theorem dL_arePegsSo_122 : decode cL_arePegsSo 122 = .ok (.lconst 0, 1) := by decide +kernel
theorem dL_arePegsSo_123 : decode cL_arePegsSo 123 = .ok (.lcmp, 1) := by decide +kernel
theorem dL_arePegsSo_124 : decode cL_arePegsSo 124 = .ok (.ifCond .eq 7, 3) := by decide +kernel
theorem dL_arePegsSo_127 : decode cL_arePegsSo 127 = .ok (.iconst 1, 1) := by decide +kernel
theorem dL_arePegsSo_128 : decode cL_arePegsSo 128 = .ok (.goto 4, 3) := by decide +kernel
theorem dL_arePegsSo_131 : decode cL_arePegsSo 131 = .ok (.iconst 0, 1) := by decide +kernel
theorem dL_arePegsSo_132 : decode cL_arePegsSo 132 = .ok (.iload_n 1, 1) := by decide +kernel
theorem dL_arePegsSo_133 : decode cL_arePegsSo 133 = .ok (.ifCond .ne 19, 3) := by decide +kernel
theorem dL_arePegsSo_136 : decode cL_arePegsSo 136 = .ok (.aload_n 0, 1) := by decide +kernel
theorem dL_arePegsSo_137 : decode cL_arePegsSo 137 = .ok (.iload 7, 2) := by decide +kernel
theorem dL_arePegsSo_139 : decode cL_arePegsSo 139 = .ok (.bipush 8, 2) := by decide +kernel
theorem dL_arePegsSo_141 : decode cL_arePegsSo 141 = .ok (.invokevirtual 40, 3) := by decide +kernel
theorem dL_arePegsSo_144 : decode cL_arePegsSo 144 = .ok (.iconst 1, 1) := by decide +kernel
theorem dL_arePegsSo_145 : decode cL_arePegsSo 145 = .ok (.if_icmp .ne 7, 3) := by decide +kernel
theorem dL_arePegsSo_148 : decode cL_arePegsSo 148 = .ok (.iconst 1, 1) := by decide +kernel
theorem dL_arePegsSo_149 : decode cL_arePegsSo 149 = .ok (.goto 4, 3) := by decide +kernel
theorem dL_arePegsSo_152 : decode cL_arePegsSo 152 = .ok (.iconst 0, 1) := by decide +kernel
theorem dL_arePegsSo_153 : decode cL_arePegsSo 153 = .ok (.if_icmp .ne 31, 3) := by decide +kernel
theorem dL_arePegsSo_156 : decode cL_arePegsSo 156 = .ok (.iload 7, 2) := by decide +kernel
theorem dL_arePegsSo_158 : decode cL_arePegsSo 158 = .ok (.iload_n 2, 1) := by decide +kernel
theorem dL_arePegsSo_159 : decode cL_arePegsSo 159 = .ok (.if_icmp .ne 21, 3) := by decide +kernel
theorem dL_arePegsSo_162 : decode cL_arePegsSo 162 = .ok (.iload_n 1, 1) := by decide +kernel
theorem dL_arePegsSo_163 : decode cL_arePegsSo 163 = .ok (.ifCond .ne 17, 3) := by decide +kernel
theorem dL_arePegsSo_166 : decode cL_arePegsSo 166 = .ok (.lload 8, 2) := by decide +kernel
theorem dL_arePegsSo_168 : decode cL_arePegsSo 168 = .ok (.lconst 1, 1) := by decide +kernel
theorem dL_arePegsSo_169 : decode cL_arePegsSo 169 = .ok (.lcmp, 1) := by decide +kernel
theorem dL_arePegsSo_170 : decode cL_arePegsSo 170 = .ok (.ifCond .ne 14, 3) := by decide +kernel
theorem dL_arePegsSo_173 : decode cL_arePegsSo 173 = .ok (.lload 10, 2) := by decide +kernel
theorem dL_arePegsSo_175 : decode cL_arePegsSo 175 = .ok (.lconst 1, 1) := by decide +kernel
theorem dL_arePegsSo_176 : decode cL_arePegsSo 176 = .ok (.lcmp, 1) := by decide +kernel
theorem dL_arePegsSo_177 : decode cL_arePegsSo 177 = .ok (.ifCond .ne 7, 3) := by decide +kernel
theorem dL_arePegsSo_180 : decode cL_arePegsSo 180 = .ok (.iconst 1, 1) := by decide +kernel
theorem dL_arePegsSo_181 : decode cL_arePegsSo 181 = .ok (.goto 4, 3) := by decide +kernel
theorem dL_arePegsSo_184 : decode cL_arePegsSo 184 = .ok (.iconst 0, 1) := by decide +kernel
theorem dL_arePegsSo_185 : decode cL_arePegsSo 185 = .ok (.istore 13, 2) := by decide +kernel
theorem dL_arePegsSo_187 : decode cL_arePegsSo 187 = .ok (.iload 13, 2) := by decide +kernel
theorem dL_arePegsSo_189 : decode cL_arePegsSo 189 = .ok (.ifCond .eq 51, 3) := by decide +kernel
theorem dL_arePegsSo_192 : decode cL_arePegsSo 192 = .ok (.lload 5, 2) := by decide +kernel
theorem dL_arePegsSo_194 : decode cL_arePegsSo 194 = .ok (.lconst 0, 1) := by decide +kernel
theorem dL_arePegsSo_195 : decode cL_arePegsSo 195 = .ok (.lcmp, 1) := by decide +kernel
theorem dL_arePegsSo_196 : decode cL_arePegsSo 196 = .ok (.ifCond .eq 13, 3) := by decide +kernel
theorem dL_arePegsSo_199 : decode cL_arePegsSo 199 = .ok (.lload 5, 2) := by decide +kernel
theorem dL_arePegsSo_201 : decode cL_arePegsSo 201 = .ok (.lload 10, 2) := by decide +kernel
theorem dL_arePegsSo_203 : decode cL_arePegsSo 203 = .ok (.lrem, 1) := by decide +kernel
theorem dL_arePegsSo_204 : decode cL_arePegsSo 204 = .ok (.lconst 0, 1) := by decide +kernel
theorem dL_arePegsSo_205 : decode cL_arePegsSo 205 = .ok (.lcmp, 1) := by decide +kernel
theorem dL_arePegsSo_206 : decode cL_arePegsSo 206 = .ok (.ifCond .ne 34, 3) := by decide +kernel
theorem dL_arePegsSo_209 : decode cL_arePegsSo 209 = .ok (.aload_n 0, 1) := by decide +kernel
theorem dL_arePegsSo_210 : decode cL_arePegsSo 210 = .ok (.iload 7, 2) := by decide +kernel
theorem dL_arePegsSo_212 : decode cL_arePegsSo 212 = .ok (.iload 7, 2) := by decide +kernel
theorem dL_arePegsSo_214 : decode cL_arePegsSo 214 = .ok (.iconst 0, 1) := by decide +kernel
theorem dL_arePegsSo_215 : decode cL_arePegsSo 215 = .ok (.invokevirtual 51, 3) := by decide +kernel
theorem dL_arePegsSo_218 : decode cL_arePegsSo 218 = .ok (.iconst 1, 1) := by decide +kernel
theorem dL_arePegsSo_219 : decode cL_arePegsSo 219 = .ok (.if_icmp .ne 21, 3) := by decide +kernel
theorem dL_arePegsSo_222 : decode cL_arePegsSo 222 = .ok (.lload 8, 2) := by decide +kernel
theorem dL_arePegsSo_224 : decode cL_arePegsSo 224 = .ok (.lconst 0, 1) := by decide +kernel
theorem dL_arePegsSo_225 : decode cL_arePegsSo 225 = .ok (.lcmp, 1) := by decide +kernel
theorem dL_arePegsSo_226 : decode cL_arePegsSo 226 = .ok (.ifCond .ne 10, 3) := by decide +kernel
theorem dL_arePegsSo_229 : decode cL_arePegsSo 229 = .ok (.lload 10, 2) := by decide +kernel
theorem dL_arePegsSo_231 : decode cL_arePegsSo 231 = .ok (.lconst 1, 1) := by decide +kernel
theorem dL_arePegsSo_232 : decode cL_arePegsSo 232 = .ok (.lcmp, 1) := by decide +kernel
theorem dL_arePegsSo_233 : decode cL_arePegsSo 233 = .ok (.ifCond .ne 7, 3) := by decide +kernel
theorem dL_arePegsSo_236 : decode cL_arePegsSo 236 = .ok (.iconst 1, 1) := by decide +kernel
theorem dL_arePegsSo_237 : decode cL_arePegsSo 237 = .ok (.goto 4, 3) := by decide +kernel
theorem dL_arePegsSo_240 : decode cL_arePegsSo 240 = .ok (.iconst 0, 1) := by decide +kernel
theorem dL_arePegsSo_241 : decode cL_arePegsSo 241 = .ok (.istore 13, 2) := by decide +kernel
theorem dL_arePegsSo_243 : decode cL_arePegsSo 243 = .ok (.iconst 0, 1) := by decide +kernel
theorem dL_arePegsSo_244 : decode cL_arePegsSo 244 = .ok (.istore 14, 2) := by decide +kernel
theorem dL_arePegsSo_246 : decode cL_arePegsSo 246 = .ok (.iconst 0, 1) := by decide +kernel
theorem dL_arePegsSo_247 : decode cL_arePegsSo 247 = .ok (.istore 15, 2) := by decide +kernel
theorem dL_arePegsSo_249 : decode cL_arePegsSo 249 = .ok (.iload 15, 2) := by decide +kernel
theorem dL_arePegsSo_251 : decode cL_arePegsSo 251 = .ok (.aload_n 0, 1) := by decide +kernel
theorem dL_arePegsSo_252 : decode cL_arePegsSo 252 = .ok (.iconst 0, 1) := by decide +kernel
theorem dL_arePegsSo_253 : decode cL_arePegsSo 253 = .ok (.invokevirtual 8, 3) := by decide +kernel
theorem dL_arePegsSo_256 : decode cL_arePegsSo 256 = .ok (.if_icmp .ge 296, 3) := by decide +kernel
theorem dL_arePegsSo_259 : decode cL_arePegsSo 259 = .ok (.aload_n 0, 1) := by decide +kernel
theorem dL_arePegsSo_260 : decode cL_arePegsSo 260 = .ok (.iload 7, 2) := by decide +kernel
theorem dL_arePegsSo_262 : decode cL_arePegsSo 262 = .ok (.iload 15, 2) := by decide +kernel
theorem dL_arePegsSo_264 : decode cL_arePegsSo 264 = .ok (.invokevirtual 54, 3) := by decide +kernel
theorem dL_arePegsSo_267 : decode cL_arePegsSo 267 = .ok (.istore 16, 2) := by decide +kernel
theorem dL_arePegsSo_269 : decode cL_arePegsSo 269 = .ok (.iload 14, 2) := by decide +kernel
theorem dL_arePegsSo_271 : decode cL_arePegsSo 271 = .ok (.iload 16, 2) := by decide +kernel
theorem dL_arePegsSo_273 : decode cL_arePegsSo 273 = .ok (.ifCond .le 7, 3) := by decide +kernel
theorem dL_arePegsSo_276 : decode cL_arePegsSo 276 = .ok (.iconst 1, 1) := by decide +kernel
theorem dL_arePegsSo_277 : decode cL_arePegsSo 277 = .ok (.goto 4, 3) := by decide +kernel
theorem dL_arePegsSo_280 : decode cL_arePegsSo 280 = .ok (.iconst 0, 1) := by decide +kernel
theorem dL_arePegsSo_281 : decode cL_arePegsSo 281 = .ok (.iadd, 1) := by decide +kernel
theorem dL_arePegsSo_282 : decode cL_arePegsSo 282 = .ok (.istore 14, 2) := by decide +kernel
theorem dL_arePegsSo_284 : decode cL_arePegsSo 284 = .ok (.iload 4, 2) := by decide +kernel
theorem dL_arePegsSo_286 : decode cL_arePegsSo 286 = .ok (.iload 16, 2) := by decide +kernel
theorem dL_arePegsSo_288 : decode cL_arePegsSo 288 = .ok (.ifCond .le 14, 3) := by decide +kernel
theorem dL_arePegsSo_291 : decode cL_arePegsSo 291 = .ok (.iload 15, 2) := by decide +kernel
theorem dL_arePegsSo_293 : decode cL_arePegsSo 293 = .ok (.iload 7, 2) := by decide +kernel
theorem dL_arePegsSo_295 : decode cL_arePegsSo 295 = .ok (.if_icmp .ge 7, 3) := by decide +kernel
theorem dL_arePegsSo_298 : decode cL_arePegsSo 298 = .ok (.iconst 1, 1) := by decide +kernel
theorem dL_arePegsSo_299 : decode cL_arePegsSo 299 = .ok (.goto 4, 3) := by decide +kernel
theorem dL_arePegsSo_302 : decode cL_arePegsSo 302 = .ok (.iconst 0, 1) := by decide +kernel
theorem dL_arePegsSo_303 : decode cL_arePegsSo 303 = .ok (.iadd, 1) := by decide +kernel
theorem dL_arePegsSo_304 : decode cL_arePegsSo 304 = .ok (.istore 4, 2) := by decide +kernel
theorem dL_arePegsSo_306 : decode cL_arePegsSo 306 = .ok (.iload 13, 2) := by decide +kernel
theorem dL_arePegsSo_308 : decode cL_arePegsSo 308 = .ok (.ifCond .eq 78, 3) := by decide +kernel
theorem dL_arePegsSo_311 : decode cL_arePegsSo 311 = .ok (.iload 16, 2) := by decide +kernel
theorem dL_arePegsSo_313 : decode cL_arePegsSo 313 = .ok (.aload_n 0, 1) := by decide +kernel
theorem dL_arePegsSo_314 : decode cL_arePegsSo 314 = .ok (.iload 15, 2) := by decide +kernel
theorem dL_arePegsSo_316 : decode cL_arePegsSo 316 = .ok (.iload 7, 2) := by decide +kernel
theorem dL_arePegsSo_318 : decode cL_arePegsSo 318 = .ok (.invokevirtual 54, 3) := by decide +kernel
theorem dL_arePegsSo_321 : decode cL_arePegsSo 321 = .ok (.if_icmp .ne 65, 3) := by decide +kernel
theorem dL_arePegsSo_324 : decode cL_arePegsSo 324 = .ok (.aload_n 0, 1) := by decide +kernel
theorem dL_arePegsSo_325 : decode cL_arePegsSo 325 = .ok (.iload 7, 2) := by decide +kernel
theorem dL_arePegsSo_327 : decode cL_arePegsSo 327 = .ok (.iload 15, 2) := by decide +kernel
theorem dL_arePegsSo_329 : decode cL_arePegsSo 329 = .ok (.iconst 0, 1) := by decide +kernel
theorem dL_arePegsSo_330 : decode cL_arePegsSo 330 = .ok (.invokevirtual 51, 3) := by decide +kernel
theorem dL_arePegsSo_333 : decode cL_arePegsSo 333 = .ok (.aload_n 0, 1) := by decide +kernel
theorem dL_arePegsSo_334 : decode cL_arePegsSo 334 = .ok (.iload 15, 2) := by decide +kernel
theorem dL_arePegsSo_336 : decode cL_arePegsSo 336 = .ok (.iload 7, 2) := by decide +kernel
theorem dL_arePegsSo_338 : decode cL_arePegsSo 338 = .ok (.iconst 0, 1) := by decide +kernel
theorem dL_arePegsSo_339 : decode cL_arePegsSo 339 = .ok (.invokevirtual 51, 3) := by decide +kernel
theorem dL_arePegsSo_342 : decode cL_arePegsSo 342 = .ok (.if_icmp .ne 44, 3) := by decide +kernel
theorem dL_arePegsSo_345 : decode cL_arePegsSo 345 = .ok (.iload 16, 2) := by decide +kernel
theorem dL_arePegsSo_347 : decode cL_arePegsSo 347 = .ok (.ifCond .eq 35, 3) := by decide +kernel
theorem dL_arePegsSo_350 : decode cL_arePegsSo 350 = .ok (.aload_n 0, 1) := by decide +kernel
theorem dL_arePegsSo_351 : decode cL_arePegsSo 351 = .ok (.iload 7, 2) := by decide +kernel
theorem dL_arePegsSo_353 : decode cL_arePegsSo 353 = .ok (.bipush 8, 2) := by decide +kernel
theorem dL_arePegsSo_355 : decode cL_arePegsSo 355 = .ok (.invokevirtual 40, 3) := by decide +kernel
theorem dL_arePegsSo_358 : decode cL_arePegsSo 358 = .ok (.aload_n 0, 1) := by decide +kernel
theorem dL_arePegsSo_359 : decode cL_arePegsSo 359 = .ok (.iload 15, 2) := by decide +kernel
theorem dL_arePegsSo_361 : decode cL_arePegsSo 361 = .ok (.bipush 8, 2) := by decide +kernel
theorem dL_arePegsSo_363 : decode cL_arePegsSo 363 = .ok (.invokevirtual 40, 3) := by decide +kernel
theorem dL_arePegsSo_366 : decode cL_arePegsSo 366 = .ok (.if_icmp .ne 20, 3) := by decide +kernel
theorem dL_arePegsSo_369 : decode cL_arePegsSo 369 = .ok (.aload_n 0, 1) := by decide +kernel
theorem dL_arePegsSo_370 : decode cL_arePegsSo 370 = .ok (.iload 7, 2) := by decide +kernel
theorem dL_arePegsSo_372 : decode cL_arePegsSo 372 = .ok (.iload 15, 2) := by decide +kernel
theorem dL_arePegsSo_374 : decode cL_arePegsSo 374 = .ok (.iconst 0, 1) := by decide +kernel
theorem dL_arePegsSo_375 : decode cL_arePegsSo 375 = .ok (.invokevirtual 51, 3) := by decide +kernel
theorem dL_arePegsSo_378 : decode cL_arePegsSo 378 = .ok (.iconst 2, 1) := by decide +kernel
theorem dL_arePegsSo_379 : decode cL_arePegsSo 379 = .ok (.if_icmp .ne 7, 3) := by decide +kernel
theorem dL_arePegsSo_382 : decode cL_arePegsSo 382 = .ok (.iconst 1, 1) := by decide +kernel
theorem dL_arePegsSo_383 : decode cL_arePegsSo 383 = .ok (.goto 4, 3) := by decide +kernel
theorem dL_arePegsSo_386 : decode cL_arePegsSo 386 = .ok (.iconst 0, 1) := by decide +kernel
theorem dL_arePegsSo_387 : decode cL_arePegsSo 387 = .ok (.istore 13, 2) := by decide +kernel
theorem dL_arePegsSo_389 : decode cL_arePegsSo 389 = .ok (.iconst 0, 1) := by decide +kernel
theorem dL_arePegsSo_390 : decode cL_arePegsSo 390 = .ok (.istore 17, 2) := by decide +kernel
theorem dL_arePegsSo_392 : decode cL_arePegsSo 392 = .ok (.iload 17, 2) := by decide +kernel
theorem dL_arePegsSo_394 : decode cL_arePegsSo 394 = .ok (.iconst 2, 1) := by decide +kernel
theorem dL_arePegsSo_395 : decode cL_arePegsSo 395 = .ok (.if_icmp .ge 151, 3) := by decide +kernel
theorem dL_arePegsSo_398 : decode cL_arePegsSo 398 = .ok (.lload 8, 2) := by decide +kernel
theorem dL_arePegsSo_400 : decode cL_arePegsSo 400 = .ok (.lconst 0, 1) := by decide +kernel
theorem dL_arePegsSo_401 : decode cL_arePegsSo 401 = .ok (.lcmp, 1) := by decide +kernel
theorem dL_arePegsSo_402 : decode cL_arePegsSo 402 = .ok (.ifCond .eq 144, 3) := by decide +kernel
theorem dL_arePegsSo_405 : decode cL_arePegsSo 405 = .ok (.iload 16, 2) := by decide +kernel
theorem dL_arePegsSo_407 : decode cL_arePegsSo 407 = .ok (.iload 17, 2) := by decide +kernel
theorem dL_arePegsSo_409 : decode cL_arePegsSo 409 = .ok (.ishr, 1) := by decide +kernel
theorem dL_arePegsSo_410 : decode cL_arePegsSo 410 = .ok (.iconst 1, 1) := by decide +kernel
theorem dL_arePegsSo_411 : decode cL_arePegsSo 411 = .ok (.iand, 1) := by decide +kernel
theorem dL_arePegsSo_412 : decode cL_arePegsSo 412 = .ok (.iconst 1, 1) := by decide +kernel
theorem dL_arePegsSo_413 : decode cL_arePegsSo 413 = .ok (.if_icmp .ne 7, 3) := by decide +kernel
theorem dL_arePegsSo_416 : decode cL_arePegsSo 416 = .ok (.iconst 1, 1) := by decide +kernel
theorem dL_arePegsSo_417 : decode cL_arePegsSo 417 = .ok (.goto 4, 3) := by decide +kernel
theorem dL_arePegsSo_420 : decode cL_arePegsSo 420 = .ok (.iconst 0, 1) := by decide +kernel
theorem dL_arePegsSo_421 : decode cL_arePegsSo 421 = .ok (.istore 18, 2) := by decide +kernel
theorem dL_arePegsSo_423 : decode cL_arePegsSo 423 = .ok (.aload_n 0, 1) := by decide +kernel
theorem dL_arePegsSo_424 : decode cL_arePegsSo 424 = .ok (.iload 7, 2) := by decide +kernel
theorem dL_arePegsSo_426 : decode cL_arePegsSo 426 = .ok (.iconst 4, 1) := by decide +kernel
theorem dL_arePegsSo_427 : decode cL_arePegsSo 427 = .ok (.iload 17, 2) := by decide +kernel
theorem dL_arePegsSo_429 : decode cL_arePegsSo 429 = .ok (.iadd, 1) := by decide +kernel
theorem dL_arePegsSo_430 : decode cL_arePegsSo 430 = .ok (.invokevirtual 40, 3) := by decide +kernel
theorem dL_arePegsSo_433 : decode cL_arePegsSo 433 = .ok (.iconst 1, 1) := by decide +kernel
theorem dL_arePegsSo_434 : decode cL_arePegsSo 434 = .ok (.if_icmp .ne 21, 3) := by decide +kernel
theorem dL_arePegsSo_437 : decode cL_arePegsSo 437 = .ok (.aload_n 0, 1) := by decide +kernel
theorem dL_arePegsSo_438 : decode cL_arePegsSo 438 = .ok (.iload 15, 2) := by decide +kernel
theorem dL_arePegsSo_440 : decode cL_arePegsSo 440 = .ok (.iconst 4, 1) := by decide +kernel
theorem dL_arePegsSo_441 : decode cL_arePegsSo 441 = .ok (.iload 17, 2) := by decide +kernel
theorem dL_arePegsSo_443 : decode cL_arePegsSo 443 = .ok (.iadd, 1) := by decide +kernel
theorem dL_arePegsSo_444 : decode cL_arePegsSo 444 = .ok (.invokevirtual 40, 3) := by decide +kernel
theorem dL_arePegsSo_447 : decode cL_arePegsSo 447 = .ok (.iconst 1, 1) := by decide +kernel
theorem dL_arePegsSo_448 : decode cL_arePegsSo 448 = .ok (.if_icmp .ne 7, 3) := by decide +kernel
theorem dL_arePegsSo_451 : decode cL_arePegsSo 451 = .ok (.iconst 1, 1) := by decide +kernel
theorem dL_arePegsSo_452 : decode cL_arePegsSo 452 = .ok (.goto 4, 3) := by decide +kernel
theorem dL_arePegsSo_455 : decode cL_arePegsSo 455 = .ok (.iconst 0, 1) := by decide +kernel
theorem dL_arePegsSo_456 : decode cL_arePegsSo 456 = .ok (.istore 19, 2) := by decide +kernel
theorem dL_arePegsSo_458 : decode cL_arePegsSo 458 = .ok (.iload 19, 2) := by decide +kernel
theorem dL_arePegsSo_460 : decode cL_arePegsSo 460 = .ok (.ifCond .eq 9, 3) := by decide +kernel
theorem dL_arePegsSo_463 : decode cL_arePegsSo 463 = .ok (.ldc2_w 57, 3) := by decide +kernel
theorem dL_arePegsSo_466 : decode cL_arePegsSo 466 = .ok (.goto 4, 3) := by decide +kernel
theorem dL_arePegsSo_469 : decode cL_arePegsSo 469 = .ok (.lconst 1, 1) := by decide +kernel
theorem dL_arePegsSo_470 : decode cL_arePegsSo 470 = .ok (.lstore 20, 2) := by decide +kernel
theorem dL_arePegsSo_472 : decode cL_arePegsSo 472 = .ok (.iload 13, 2) := by decide +kernel
theorem dL_arePegsSo_474 : decode cL_arePegsSo 474 = .ok (.ifCond .eq 63, 3) := by decide +kernel
theorem dL_arePegsSo_477 : decode cL_arePegsSo 477 = .ok (.iload 18, 2) := by decide +kernel
theorem dL_arePegsSo_479 : decode cL_arePegsSo 479 = .ok (.ifCond .eq 54, 3) := by decide +kernel
theorem dL_arePegsSo_482 : decode cL_arePegsSo 482 = .ok (.lload 8, 2) := by decide +kernel
theorem dL_arePegsSo_484 : decode cL_arePegsSo 484 = .ok (.aload_n 0, 1) := by decide +kernel
theorem dL_arePegsSo_485 : decode cL_arePegsSo 485 = .ok (.iload 7, 2) := by decide +kernel
theorem dL_arePegsSo_487 : decode cL_arePegsSo 487 = .ok (.iconst 2, 1) := by decide +kernel
theorem dL_arePegsSo_488 : decode cL_arePegsSo 488 = .ok (.iload 17, 2) := by decide +kernel
theorem dL_arePegsSo_490 : decode cL_arePegsSo 490 = .ok (.iadd, 1) := by decide +kernel
theorem dL_arePegsSo_491 : decode cL_arePegsSo 491 = .ok (.invokevirtual 40, 3) := by decide +kernel
theorem dL_arePegsSo_494 : decode cL_arePegsSo 494 = .ok (.i2l, 1) := by decide +kernel
theorem dL_arePegsSo_495 : decode cL_arePegsSo 495 = .ok (.lmul, 1) := by decide +kernel
theorem dL_arePegsSo_496 : decode cL_arePegsSo 496 = .ok (.aload_n 0, 1) := by decide +kernel
theorem dL_arePegsSo_497 : decode cL_arePegsSo 497 = .ok (.iload 15, 2) := by decide +kernel
theorem dL_arePegsSo_499 : decode cL_arePegsSo 499 = .ok (.iconst 1, 1) := by decide +kernel
theorem dL_arePegsSo_500 : decode cL_arePegsSo 500 = .ok (.invokevirtual 47, 3) := by decide +kernel
theorem dL_arePegsSo_503 : decode cL_arePegsSo 503 = .ok (.lmul, 1) := by decide +kernel
theorem dL_arePegsSo_504 : decode cL_arePegsSo 504 = .ok (.lload 20, 2) := by decide +kernel
theorem dL_arePegsSo_506 : decode cL_arePegsSo 506 = .ok (.aload_n 0, 1) := by decide +kernel
theorem dL_arePegsSo_507 : decode cL_arePegsSo 507 = .ok (.iload 15, 2) := by decide +kernel
theorem dL_arePegsSo_509 : decode cL_arePegsSo 509 = .ok (.iconst 0, 1) := by decide +kernel
theorem dL_arePegsSo_510 : decode cL_arePegsSo 510 = .ok (.invokevirtual 47, 3) := by decide +kernel
theorem dL_arePegsSo_513 : decode cL_arePegsSo 513 = .ok (.lmul, 1) := by decide +kernel
theorem dL_arePegsSo_514 : decode cL_arePegsSo 514 = .ok (.aload_n 0, 1) := by decide +kernel
theorem dL_arePegsSo_515 : decode cL_arePegsSo 515 = .ok (.iload 15, 2) := by decide +kernel
theorem dL_arePegsSo_517 : decode cL_arePegsSo 517 = .ok (.iconst 2, 1) := by decide +kernel
theorem dL_arePegsSo_518 : decode cL_arePegsSo 518 = .ok (.iload 17, 2) := by decide +kernel
theorem dL_arePegsSo_520 : decode cL_arePegsSo 520 = .ok (.iadd, 1) := by decide +kernel
theorem dL_arePegsSo_521 : decode cL_arePegsSo 521 = .ok (.invokevirtual 40, 3) := by decide +kernel
theorem dL_arePegsSo_524 : decode cL_arePegsSo 524 = .ok (.i2l, 1) := by decide +kernel
theorem dL_arePegsSo_525 : decode cL_arePegsSo 525 = .ok (.lmul, 1) := by decide +kernel
theorem dL_arePegsSo_526 : decode cL_arePegsSo 526 = .ok (.lload 10, 2) := by decide +kernel
theorem dL_arePegsSo_528 : decode cL_arePegsSo 528 = .ok (.lmul, 1) := by decide +kernel
theorem dL_arePegsSo_529 : decode cL_arePegsSo 529 = .ok (.lcmp, 1) := by decide +kernel
theorem dL_arePegsSo_530 : decode cL_arePegsSo 530 = .ok (.ifCond .ne 7, 3) := by decide +kernel
theorem dL_arePegsSo_533 : decode cL_arePegsSo 533 = .ok (.iconst 1, 1) := by decide +kernel
theorem dL_arePegsSo_534 : decode cL_arePegsSo 534 = .ok (.goto 4, 3) := by decide +kernel
theorem dL_arePegsSo_537 : decode cL_arePegsSo 537 = .ok (.iconst 0, 1) := by decide +kernel
theorem dL_arePegsSo_538 : decode cL_arePegsSo 538 = .ok (.istore 13, 2) := by decide +kernel
theorem dL_arePegsSo_540 : decode cL_arePegsSo 540 = .ok (.iinc 17 1, 3) := by decide +kernel
theorem dL_arePegsSo_543 : decode cL_arePegsSo 543 = .ok (.goto (-151), 3) := by decide +kernel
theorem dL_arePegsSo_546 : decode cL_arePegsSo 546 = .ok (.iinc 15 1, 3) := by decide +kernel
theorem dL_arePegsSo_549 : decode cL_arePegsSo 549 = .ok (.goto (-300), 3) := by decide +kernel
theorem dL_arePegsSo_552 : decode cL_arePegsSo 552 = .ok (.iload 13, 2) := by decide +kernel
theorem dL_arePegsSo_554 : decode cL_arePegsSo 554 = .ok (.ifCond .eq 59, 3) := by decide +kernel
theorem dL_arePegsSo_557 : decode cL_arePegsSo 557 = .ok (.iload 14, 2) := by decide +kernel
theorem dL_arePegsSo_559 : decode cL_arePegsSo 559 = .ok (.aload_n 0, 1) := by decide +kernel
theorem dL_arePegsSo_560 : decode cL_arePegsSo 560 = .ok (.iload 7, 2) := by decide +kernel
theorem dL_arePegsSo_562 : decode cL_arePegsSo 562 = .ok (.bipush 6, 2) := by decide +kernel
theorem dL_arePegsSo_564 : decode cL_arePegsSo 564 = .ok (.invokevirtual 40, 3) := by decide +kernel
theorem dL_arePegsSo_567 : decode cL_arePegsSo 567 = .ok (.if_icmp .ne 46, 3) := by decide +kernel
theorem dL_arePegsSo_570 : decode cL_arePegsSo 570 = .ok (.iload_n 2, 1) := by decide +kernel
theorem dL_arePegsSo_571 : decode cL_arePegsSo 571 = .ok (.ifCond .lt 38, 3) := by decide +kernel
theorem dL_arePegsSo_574 : decode cL_arePegsSo 574 = .ok (.lload 8, 2) := by decide +kernel
theorem dL_arePegsSo_576 : decode cL_arePegsSo 576 = .ok (.lconst 0, 1) := by decide +kernel
theorem dL_arePegsSo_577 : decode cL_arePegsSo 577 = .ok (.lcmp, 1) := by decide +kernel
theorem dL_arePegsSo_578 : decode cL_arePegsSo 578 = .ok (.ifCond .eq 31, 3) := by decide +kernel
theorem dL_arePegsSo_581 : decode cL_arePegsSo 581 = .ok (.aload_n 0, 1) := by decide +kernel
theorem dL_arePegsSo_582 : decode cL_arePegsSo 582 = .ok (.iload_n 2, 1) := by decide +kernel
theorem dL_arePegsSo_583 : decode cL_arePegsSo 583 = .ok (.iload 7, 2) := by decide +kernel
theorem dL_arePegsSo_585 : decode cL_arePegsSo 585 = .ok (.iconst 0, 1) := by decide +kernel
theorem dL_arePegsSo_586 : decode cL_arePegsSo 586 = .ok (.invokevirtual 59, 3) := by decide +kernel
theorem dL_arePegsSo_589 : decode cL_arePegsSo 589 = .ok (.lload 8, 2) := by decide +kernel
theorem dL_arePegsSo_591 : decode cL_arePegsSo 591 = .ok (.lcmp, 1) := by decide +kernel
theorem dL_arePegsSo_592 : decode cL_arePegsSo 592 = .ok (.ifCond .ne 21, 3) := by decide +kernel
theorem dL_arePegsSo_595 : decode cL_arePegsSo 595 = .ok (.aload_n 0, 1) := by decide +kernel
theorem dL_arePegsSo_596 : decode cL_arePegsSo 596 = .ok (.iload_n 2, 1) := by decide +kernel
theorem dL_arePegsSo_597 : decode cL_arePegsSo 597 = .ok (.iload 7, 2) := by decide +kernel
theorem dL_arePegsSo_599 : decode cL_arePegsSo 599 = .ok (.iconst 1, 1) := by decide +kernel
theorem dL_arePegsSo_600 : decode cL_arePegsSo 600 = .ok (.invokevirtual 59, 3) := by decide +kernel
theorem dL_arePegsSo_603 : decode cL_arePegsSo 603 = .ok (.lload 10, 2) := by decide +kernel
theorem dL_arePegsSo_605 : decode cL_arePegsSo 605 = .ok (.lcmp, 1) := by decide +kernel
theorem dL_arePegsSo_606 : decode cL_arePegsSo 606 = .ok (.ifCond .ne 7, 3) := by decide +kernel
theorem dL_arePegsSo_609 : decode cL_arePegsSo 609 = .ok (.iconst 1, 1) := by decide +kernel
theorem dL_arePegsSo_610 : decode cL_arePegsSo 610 = .ok (.goto 4, 3) := by decide +kernel
theorem dL_arePegsSo_613 : decode cL_arePegsSo 613 = .ok (.iconst 0, 1) := by decide +kernel
theorem dL_arePegsSo_614 : decode cL_arePegsSo 614 = .ok (.istore 13, 2) := by decide +kernel
theorem dL_arePegsSo_616 : decode cL_arePegsSo 616 = .ok (.iload 13, 2) := by decide +kernel
theorem dL_arePegsSo_618 : decode cL_arePegsSo 618 = .ok (.ifCond .eq 48, 3) := by decide +kernel
theorem dL_arePegsSo_621 : decode cL_arePegsSo 621 = .ok (.iload_n 2, 1) := by decide +kernel
theorem dL_arePegsSo_622 : decode cL_arePegsSo 622 = .ok (.ifCond .lt 40, 3) := by decide +kernel
theorem dL_arePegsSo_625 : decode cL_arePegsSo 625 = .ok (.aload_n 0, 1) := by decide +kernel
theorem dL_arePegsSo_626 : decode cL_arePegsSo 626 = .ok (.iload_n 2, 1) := by decide +kernel
theorem dL_arePegsSo_627 : decode cL_arePegsSo 627 = .ok (.iload 7, 2) := by decide +kernel
theorem dL_arePegsSo_629 : decode cL_arePegsSo 629 = .ok (.iconst 0, 1) := by decide +kernel
theorem dL_arePegsSo_630 : decode cL_arePegsSo 630 = .ok (.invokevirtual 51, 3) := by decide +kernel
theorem dL_arePegsSo_633 : decode cL_arePegsSo 633 = .ok (.iconst 1, 1) := by decide +kernel
theorem dL_arePegsSo_634 : decode cL_arePegsSo 634 = .ok (.if_icmp .lt 7, 3) := by decide +kernel
theorem dL_arePegsSo_637 : decode cL_arePegsSo 637 = .ok (.iconst 1, 1) := by decide +kernel
theorem dL_arePegsSo_638 : decode cL_arePegsSo 638 = .ok (.goto 4, 3) := by decide +kernel
theorem dL_arePegsSo_641 : decode cL_arePegsSo 641 = .ok (.iconst 0, 1) := by decide +kernel
theorem dL_arePegsSo_642 : decode cL_arePegsSo 642 = .ok (.aload_n 0, 1) := by decide +kernel
theorem dL_arePegsSo_643 : decode cL_arePegsSo 643 = .ok (.iload 7, 2) := by decide +kernel
theorem dL_arePegsSo_645 : decode cL_arePegsSo 645 = .ok (.bipush 8, 2) := by decide +kernel
theorem dL_arePegsSo_647 : decode cL_arePegsSo 647 = .ok (.invokevirtual 40, 3) := by decide +kernel
theorem dL_arePegsSo_650 : decode cL_arePegsSo 650 = .ok (.iconst 1, 1) := by decide +kernel
theorem dL_arePegsSo_651 : decode cL_arePegsSo 651 = .ok (.if_icmp .ne 7, 3) := by decide +kernel
theorem dL_arePegsSo_654 : decode cL_arePegsSo 654 = .ok (.iconst 1, 1) := by decide +kernel
theorem dL_arePegsSo_655 : decode cL_arePegsSo 655 = .ok (.goto 4, 3) := by decide +kernel
theorem dL_arePegsSo_658 : decode cL_arePegsSo 658 = .ok (.iconst 0, 1) := by decide +kernel
theorem dL_arePegsSo_659 : decode cL_arePegsSo 659 = .ok (.if_icmp .ne 7, 3) := by decide +kernel
theorem dL_arePegsSo_662 : decode cL_arePegsSo 662 = .ok (.iconst 1, 1) := by decide +kernel
theorem dL_arePegsSo_663 : decode cL_arePegsSo 663 = .ok (.goto 4, 3) := by decide +kernel
theorem dL_arePegsSo_666 : decode cL_arePegsSo 666 = .ok (.iconst 0, 1) := by decide +kernel
theorem dL_arePegsSo_667 : decode cL_arePegsSo 667 = .ok (.istore 13, 2) := by decide +kernel
theorem dL_arePegsSo_669 : decode cL_arePegsSo 669 = .ok (.iload 13, 2) := by decide +kernel
theorem dL_arePegsSo_671 : decode cL_arePegsSo 671 = .ok (.ifCond .ne 5, 3) := by decide +kernel
theorem dL_arePegsSo_674 : decode cL_arePegsSo 674 = .ok (.iconst 0, 1) := by decide +kernel
theorem dL_arePegsSo_675 : decode cL_arePegsSo 675 = .ok (.ireturn, 1) := by decide +kernel
theorem dL_arePegsSo_676 : decode cL_arePegsSo 676 = .ok (.iinc 7 1, 3) := by decide +kernel
theorem dL_arePegsSo_679 : decode cL_arePegsSo 679 = .ok (.goto (-643), 3) := by decide +kernel
theorem dL_arePegsSo_682 : decode cL_arePegsSo 682 = .ok (.iload_n 3, 1) := by decide +kernel
theorem dL_arePegsSo_683 : decode cL_arePegsSo 683 = .ok (.aload_n 0, 1) := by decide +kernel
theorem dL_arePegsSo_684 : decode cL_arePegsSo 684 = .ok (.iconst 5, 1) := by decide +kernel
theorem dL_arePegsSo_685 : decode cL_arePegsSo 685 = .ok (.invokevirtual 8, 3) := by decide +kernel
theorem dL_arePegsSo_688 : decode cL_arePegsSo 688 = .ok (.if_icmp .ne 53, 3) := by decide +kernel
theorem dL_arePegsSo_691 : decode cL_arePegsSo 691 = .ok (.iload 4, 2) := by decide +kernel
theorem dL_arePegsSo_693 : decode cL_arePegsSo 693 = .ok (.aload_n 0, 1) := by decide +kernel
theorem dL_arePegsSo_694 : decode cL_arePegsSo 694 = .ok (.iconst 3, 1) := by decide +kernel
theorem dL_arePegsSo_695 : decode cL_arePegsSo 695 = .ok (.invokevirtual 8, 3) := by decide +kernel
theorem dL_arePegsSo_698 : decode cL_arePegsSo 698 = .ok (.if_icmp .ne 43, 3) := by decide +kernel
theorem dL_arePegsSo_701 : decode cL_arePegsSo 701 = .ok (.lload 5, 2) := by decide +kernel
theorem dL_arePegsSo_703 : decode cL_arePegsSo 703 = .ok (.lconst 0, 1) := by decide +kernel
theorem dL_arePegsSo_704 : decode cL_arePegsSo 704 = .ok (.lcmp, 1) := by decide +kernel
theorem dL_arePegsSo_705 : decode cL_arePegsSo 705 = .ok (.ifCond .le 7, 3) := by decide +kernel
theorem dL_arePegsSo_708 : decode cL_arePegsSo 708 = .ok (.iconst 1, 1) := by decide +kernel
theorem dL_arePegsSo_709 : decode cL_arePegsSo 709 = .ok (.goto 4, 3) := by decide +kernel
theorem dL_arePegsSo_712 : decode cL_arePegsSo 712 = .ok (.iconst 0, 1) := by decide +kernel
theorem dL_arePegsSo_713 : decode cL_arePegsSo 713 = .ok (.iload_n 2, 1) := by decide +kernel
theorem dL_arePegsSo_714 : decode cL_arePegsSo 714 = .ok (.ifCond .lt 11, 3) := by decide +kernel
theorem dL_arePegsSo_717 : decode cL_arePegsSo 717 = .ok (.iload_n 1, 1) := by decide +kernel
theorem dL_arePegsSo_718 : decode cL_arePegsSo 718 = .ok (.ifCond .ne 7, 3) := by decide +kernel
theorem dL_arePegsSo_721 : decode cL_arePegsSo 721 = .ok (.iconst 1, 1) := by decide +kernel
theorem dL_arePegsSo_722 : decode cL_arePegsSo 722 = .ok (.goto 4, 3) := by decide +kernel
theorem dL_arePegsSo_725 : decode cL_arePegsSo 725 = .ok (.iconst 0, 1) := by decide +kernel
theorem dL_arePegsSo_726 : decode cL_arePegsSo 726 = .ok (.if_icmp .ne 15, 3) := by decide +kernel
theorem dL_arePegsSo_729 : decode cL_arePegsSo 729 = .ok (.iload 4, 2) := by decide +kernel
theorem dL_arePegsSo_731 : decode cL_arePegsSo 731 = .ok (.iload_n 3, 1) := by decide +kernel
theorem dL_arePegsSo_732 : decode cL_arePegsSo 732 = .ok (.iconst 1, 1) := by decide +kernel
theorem dL_arePegsSo_733 : decode cL_arePegsSo 733 = .ok (.isub, 1) := by decide +kernel
theorem dL_arePegsSo_734 : decode cL_arePegsSo 734 = .ok (.if_icmp .lt 7, 3) := by decide +kernel
theorem dL_arePegsSo_737 : decode cL_arePegsSo 737 = .ok (.iconst 1, 1) := by decide +kernel
theorem dL_arePegsSo_738 : decode cL_arePegsSo 738 = .ok (.goto 4, 3) := by decide +kernel
theorem dL_arePegsSo_741 : decode cL_arePegsSo 741 = .ok (.iconst 0, 1) := by decide +kernel
theorem dL_arePegsSo_742 : decode cL_arePegsSo 742 = .ok (.ireturn, 1) := by decide +kernel
theorem dL_areAnswersSo_0 : decode cL_areAnswersSo 0 = .ok (.aload_n 0, 1) := by decide +kernel
theorem dL_areAnswersSo_1 : decode cL_areAnswersSo 1 = .ok (.iconst 0, 1) := by decide +kernel
theorem dL_areAnswersSo_2 : decode cL_areAnswersSo 2 = .ok (.invokevirtual 27, 3) := by decide +kernel
theorem dL_areAnswersSo_5 : decode cL_areAnswersSo 5 = .ok (.istore_n 1, 1) := by decide +kernel
theorem dL_areAnswersSo_6 : decode cL_areAnswersSo 6 = .ok (.iconst 1, 1) := by decide +kernel
theorem dL_areAnswersSo_7 : decode cL_areAnswersSo 7 = .ok (.istore_n 2, 1) := by decide +kernel
theorem dL_areAnswersSo_8 : decode cL_areAnswersSo 8 = .ok (.iconst 0, 1) := by decide +kernel
theorem dL_areAnswersSo_9 : decode cL_areAnswersSo 9 = .ok (.istore_n 3, 1) := by decide +kernel
theorem dL_areAnswersSo_10 : decode cL_areAnswersSo 10 = .ok (.iload_n 1, 1) := by decide +kernel
theorem dL_areAnswersSo_11 : decode cL_areAnswersSo 11 = .ok (.ifCond .lt 81, 3) := by decide +kernel
theorem dL_areAnswersSo_14 : decode cL_areAnswersSo 14 = .ok (.aload_n 0, 1) := by decide +kernel
theorem dL_areAnswersSo_15 : decode cL_areAnswersSo 15 = .ok (.iconst 1, 1) := by decide +kernel
theorem dL_areAnswersSo_16 : decode cL_areAnswersSo 16 = .ok (.invokevirtual 27, 3) := by decide +kernel
theorem dL_areAnswersSo_19 : decode cL_areAnswersSo 19 = .ok (.istore 4, 2) := by decide +kernel
theorem dL_areAnswersSo_21 : decode cL_areAnswersSo 21 = .ok (.aload_n 0, 1) := by decide +kernel
theorem dL_areAnswersSo_22 : decode cL_areAnswersSo 22 = .ok (.iconst 2, 1) := by decide +kernel
theorem dL_areAnswersSo_23 : decode cL_areAnswersSo 23 = .ok (.invokevirtual 27, 3) := by decide +kernel
theorem dL_areAnswersSo_26 : decode cL_areAnswersSo 26 = .ok (.istore 5, 2) := by decide +kernel
theorem dL_areAnswersSo_28 : decode cL_areAnswersSo 28 = .ok (.aload_n 0, 1) := by decide +kernel
theorem dL_areAnswersSo_29 : decode cL_areAnswersSo 29 = .ok (.bipush 8, 2) := by decide +kernel
theorem dL_areAnswersSo_31 : decode cL_areAnswersSo 31 = .ok (.invokevirtual 8, 3) := by decide +kernel
theorem dL_areAnswersSo_34 : decode cL_areAnswersSo 34 = .ok (.ifCond .ne 20, 3) := by decide +kernel
theorem dL_areAnswersSo_37 : decode cL_areAnswersSo 37 = .ok (.aload_n 0, 1) := by decide +kernel
theorem dL_areAnswersSo_38 : decode cL_areAnswersSo 38 = .ok (.iload_n 1, 1) := by decide +kernel
theorem dL_areAnswersSo_39 : decode cL_areAnswersSo 39 = .ok (.iload 4, 2) := by decide +kernel
theorem dL_areAnswersSo_41 : decode cL_areAnswersSo 41 = .ok (.iload 5, 2) := by decide +kernel
theorem dL_areAnswersSo_43 : decode cL_areAnswersSo 43 = .ok (.iconst 0, 1) := by decide +kernel
theorem dL_areAnswersSo_44 : decode cL_areAnswersSo 44 = .ok (.invokevirtual 36, 3) := by decide +kernel
theorem dL_areAnswersSo_47 : decode cL_areAnswersSo 47 = .ok (.ifCond .lt 7, 3) := by decide +kernel
theorem dL_areAnswersSo_50 : decode cL_areAnswersSo 50 = .ok (.iconst 1, 1) := by decide +kernel
theorem dL_areAnswersSo_51 : decode cL_areAnswersSo 51 = .ok (.goto 4, 3) := by decide +kernel
theorem dL_areAnswersSo_54 : decode cL_areAnswersSo 54 = .ok (.iconst 0, 1) := by decide +kernel
theorem dL_areAnswersSo_55 : decode cL_areAnswersSo 55 = .ok (.istore_n 2, 1) := by decide +kernel
theorem dL_areAnswersSo_56 : decode cL_areAnswersSo 56 = .ok (.aload_n 0, 1) := by decide +kernel
theorem dL_areAnswersSo_57 : decode cL_areAnswersSo 57 = .ok (.iload_n 1, 1) := by decide +kernel
theorem dL_areAnswersSo_58 : decode cL_areAnswersSo 58 = .ok (.iload 4, 2) := by decide +kernel
theorem dL_areAnswersSo_60 : decode cL_areAnswersSo 60 = .ok (.iload 5, 2) := by decide +kernel
theorem dL_areAnswersSo_62 : decode cL_areAnswersSo 62 = .ok (.invokevirtual 30, 3) := by decide +kernel
theorem dL_areAnswersSo_65 : decode cL_areAnswersSo 65 = .ok (.istore 6, 2) := by decide +kernel
theorem dL_areAnswersSo_67 : decode cL_areAnswersSo 67 = .ok (.iload_n 2, 1) := by decide +kernel
theorem dL_areAnswersSo_68 : decode cL_areAnswersSo 68 = .ok (.ifCond .eq 17, 3) := by decide +kernel
theorem dL_areAnswersSo_71 : decode cL_areAnswersSo 71 = .ok (.aload_n 0, 1) := by decide +kernel
theorem dL_areAnswersSo_72 : decode cL_areAnswersSo 72 = .ok (.bipush 8, 2) := by decide +kernel
theorem dL_areAnswersSo_74 : decode cL_areAnswersSo 74 = .ok (.invokevirtual 8, 3) := by decide +kernel
theorem dL_areAnswersSo_77 : decode cL_areAnswersSo 77 = .ok (.iconst 1, 1) := by decide +kernel
theorem dL_areAnswersSo_78 : decode cL_areAnswersSo 78 = .ok (.if_icmp .ne 7, 3) := by decide +kernel
theorem dL_areAnswersSo_81 : decode cL_areAnswersSo 81 = .ok (.iconst 1, 1) := by decide +kernel
theorem dL_areAnswersSo_82 : decode cL_areAnswersSo 82 = .ok (.goto 4, 3) := by decide +kernel
theorem dL_areAnswersSo_85 : decode cL_areAnswersSo 85 = .ok (.iconst 0, 1) := by decide +kernel
theorem dL_areAnswersSo_86 : decode cL_areAnswersSo 86 = .ok (.istore_n 2, 1) := by decide +kernel
theorem dL_areAnswersSo_87 : decode cL_areAnswersSo 87 = .ok (.aload_n 0, 1) := by decide +kernel
theorem dL_areAnswersSo_88 : decode cL_areAnswersSo 88 = .ok (.invokevirtual 63, 3) := by decide +kernel
theorem dL_areAnswersSo_91 : decode cL_areAnswersSo 91 = .ok (.istore_n 3, 1) := by decide +kernel
theorem dL_areAnswersSo_92 : decode cL_areAnswersSo 92 = .ok (.aload_n 0, 1) := by decide +kernel
theorem dL_areAnswersSo_93 : decode cL_areAnswersSo 93 = .ok (.invokevirtual 67, 3) := by decide +kernel
theorem dL_areAnswersSo_96 : decode cL_areAnswersSo 96 = .ok (.istore 4, 2) := by decide +kernel
theorem dL_areAnswersSo_98 : decode cL_areAnswersSo 98 = .ok (.iload_n 2, 1) := by decide +kernel
theorem dL_areAnswersSo_99 : decode cL_areAnswersSo 99 = .ok (.ifCond .eq 32, 3) := by decide +kernel
theorem dL_areAnswersSo_102 : decode cL_areAnswersSo 102 = .ok (.iload 4, 2) := by decide +kernel
theorem dL_areAnswersSo_104 : decode cL_areAnswersSo 104 = .ok (.ifCond .lt 23, 3) := by decide +kernel
theorem dL_areAnswersSo_107 : decode cL_areAnswersSo 107 = .ok (.aload_n 0, 1) := by decide +kernel
theorem dL_areAnswersSo_108 : decode cL_areAnswersSo 108 = .ok (.bipush 6, 2) := by decide +kernel
theorem dL_areAnswersSo_110 : decode cL_areAnswersSo 110 = .ok (.invokevirtual 8, 3) := by decide +kernel
theorem dL_areAnswersSo_113 : decode cL_areAnswersSo 113 = .ok (.iconst 1, 1) := by decide +kernel
theorem dL_areAnswersSo_114 : decode cL_areAnswersSo 114 = .ok (.if_icmp .ne 17, 3) := by decide +kernel
theorem dL_areAnswersSo_117 : decode cL_areAnswersSo 117 = .ok (.iload 4, 2) := by decide +kernel
theorem dL_areAnswersSo_119 : decode cL_areAnswersSo 119 = .ok (.aload_n 0, 1) := by decide +kernel
theorem dL_areAnswersSo_120 : decode cL_areAnswersSo 120 = .ok (.iconst 4, 1) := by decide +kernel
theorem dL_areAnswersSo_121 : decode cL_areAnswersSo 121 = .ok (.invokevirtual 8, 3) := by decide +kernel
theorem dL_areAnswersSo_124 : decode cL_areAnswersSo 124 = .ok (.if_icmp .eq 7, 3) := by decide +kernel
theorem dL_areAnswersSo_127 : decode cL_areAnswersSo 127 = .ok (.iconst 1, 1) := by decide +kernel
theorem dL_areAnswersSo_128 : decode cL_areAnswersSo 128 = .ok (.goto 4, 3) := by decide +kernel
theorem dL_areAnswersSo_131 : decode cL_areAnswersSo 131 = .ok (.iconst 0, 1) := by decide +kernel
theorem dL_areAnswersSo_132 : decode cL_areAnswersSo 132 = .ok (.istore_n 2, 1) := by decide +kernel
theorem dL_areAnswersSo_133 : decode cL_areAnswersSo 133 = .ok (.iload 4, 2) := by decide +kernel
theorem dL_areAnswersSo_135 : decode cL_areAnswersSo 135 = .ok (.ifCond .lt 61, 3) := by decide +kernel
theorem dL_areAnswersSo_138 : decode cL_areAnswersSo 138 = .ok (.aload_n 0, 1) := by decide +kernel
theorem dL_areAnswersSo_139 : decode cL_areAnswersSo 139 = .ok (.iload 4, 2) := by decide +kernel
theorem dL_areAnswersSo_141 : decode cL_areAnswersSo 141 = .ok (.iconst 0, 1) := by decide +kernel
theorem dL_areAnswersSo_142 : decode cL_areAnswersSo 142 = .ok (.iconst 0, 1) := by decide +kernel
theorem dL_areAnswersSo_143 : decode cL_areAnswersSo 143 = .ok (.invokevirtual 30, 3) := by decide +kernel
theorem dL_areAnswersSo_146 : decode cL_areAnswersSo 146 = .ok (.istore 5, 2) := by decide +kernel
theorem dL_areAnswersSo_148 : decode cL_areAnswersSo 148 = .ok (.aload_n 0, 1) := by decide +kernel
theorem dL_areAnswersSo_149 : decode cL_areAnswersSo 149 = .ok (.iload 4, 2) := by decide +kernel
theorem dL_areAnswersSo_151 : decode cL_areAnswersSo 151 = .ok (.iconst 1, 1) := by decide +kernel
theorem dL_areAnswersSo_152 : decode cL_areAnswersSo 152 = .ok (.iconst 0, 1) := by decide +kernel
theorem dL_areAnswersSo_153 : decode cL_areAnswersSo 153 = .ok (.invokevirtual 30, 3) := by decide +kernel
theorem dL_areAnswersSo_156 : decode cL_areAnswersSo 156 = .ok (.istore 5, 2) := by decide +kernel
theorem dL_areAnswersSo_158 : decode cL_areAnswersSo 158 = .ok (.iload_n 2, 1) := by decide +kernel
theorem dL_areAnswersSo_159 : decode cL_areAnswersSo 159 = .ok (.ifCond .eq 25, 3) := by decide +kernel
theorem dL_areAnswersSo_162 : decode cL_areAnswersSo 162 = .ok (.aload_n 0, 1) := by decide +kernel
theorem dL_areAnswersSo_163 : decode cL_areAnswersSo 163 = .ok (.bipush 6, 2) := by decide +kernel
theorem dL_areAnswersSo_165 : decode cL_areAnswersSo 165 = .ok (.invokevirtual 8, 3) := by decide +kernel
theorem dL_areAnswersSo_168 : decode cL_areAnswersSo 168 = .ok (.ifCond .ne 16, 3) := by decide +kernel
theorem dL_areAnswersSo_171 : decode cL_areAnswersSo 171 = .ok (.aload_n 0, 1) := by decide +kernel
theorem dL_areAnswersSo_172 : decode cL_areAnswersSo 172 = .ok (.iconst 5, 1) := by decide +kernel
theorem dL_areAnswersSo_173 : decode cL_areAnswersSo 173 = .ok (.invokevirtual 8, 3) := by decide +kernel
theorem dL_areAnswersSo_176 : decode cL_areAnswersSo 176 = .ok (.iconst 1, 1) := by decide +kernel
theorem dL_areAnswersSo_177 : decode cL_areAnswersSo 177 = .ok (.if_icmp .le 7, 3) := by decide +kernel
theorem dL_areAnswersSo_180 : decode cL_areAnswersSo 180 = .ok (.iconst 1, 1) := by decide +kernel
theorem dL_areAnswersSo_181 : decode cL_areAnswersSo 181 = .ok (.goto 4, 3) := by decide +kernel
theorem dL_areAnswersSo_184 : decode cL_areAnswersSo 184 = .ok (.iconst 0, 1) := by decide +kernel
theorem dL_areAnswersSo_185 : decode cL_areAnswersSo 185 = .ok (.istore_n 2, 1) := by decide +kernel
theorem dL_areAnswersSo_186 : decode cL_areAnswersSo 186 = .ok (.aload_n 0, 1) := by decide +kernel
theorem dL_areAnswersSo_187 : decode cL_areAnswersSo 187 = .ok (.invokevirtual 63, 3) := by decide +kernel
theorem dL_areAnswersSo_190 : decode cL_areAnswersSo 190 = .ok (.istore_n 3, 1) := by decide +kernel
theorem dL_areAnswersSo_191 : decode cL_areAnswersSo 191 = .ok (.aload_n 0, 1) := by decide +kernel
theorem dL_areAnswersSo_192 : decode cL_areAnswersSo 192 = .ok (.invokevirtual 63, 3) := by decide +kernel
theorem dL_areAnswersSo_195 : decode cL_areAnswersSo 195 = .ok (.istore_n 3, 1) := by decide +kernel
theorem dL_areAnswersSo_196 : decode cL_areAnswersSo 196 = .ok (.iload_n 2, 1) := by decide +kernel
theorem dL_areAnswersSo_197 : decode cL_areAnswersSo 197 = .ok (.ifCond .eq 11, 3) := by decide +kernel
theorem dL_areAnswersSo_200 : decode cL_areAnswersSo 200 = .ok (.iload_n 3, 1) := by decide +kernel
theorem dL_areAnswersSo_201 : decode cL_areAnswersSo 201 = .ok (.ifCond .lt 7, 3) := by decide +kernel
theorem dL_areAnswersSo_204 : decode cL_areAnswersSo 204 = .ok (.iconst 1, 1) := by decide +kernel
theorem dL_areAnswersSo_205 : decode cL_areAnswersSo 205 = .ok (.goto 4, 3) := by decide +kernel
theorem dL_areAnswersSo_208 : decode cL_areAnswersSo 208 = .ok (.iconst 0, 1) := by decide +kernel
theorem dL_areAnswersSo_209 : decode cL_areAnswersSo 209 = .ok (.ireturn, 1) := by decide +kernel
theorem dL_law_0 : decode cL_law 0 = .ok (.new 9, 3) := by decide +kernel
theorem dL_law_3 : decode cL_law 3 = .ok (.dup, 1) := by decide +kernel
theorem dL_law_4 : decode cL_law 4 = .ok (.invokespecial 70, 3) := by decide +kernel
theorem dL_law_7 : decode cL_law 7 = .ok (.astore_n 1, 1) := by decide +kernel
theorem dL_law_8 : decode cL_law 8 = .ok (.iconst 0, 1) := by decide +kernel
theorem dL_law_9 : decode cL_law 9 = .ok (.istore_n 2, 1) := by decide +kernel
theorem dL_law_10 : decode cL_law 10 = .ok (.iload_n 2, 1) := by decide +kernel
theorem dL_law_11 : decode cL_law 11 = .ok (.bipush 7, 2) := by decide +kernel
theorem dL_law_13 : decode cL_law 13 = .ok (.if_icmp .ge 55, 3) := by decide +kernel
theorem dL_law_16 : decode cL_law 16 = .ok (.aload_n 0, 1) := by decide +kernel
theorem dL_law_17 : decode cL_law 17 = .ok (.iload_n 2, 1) := by decide +kernel
theorem dL_law_18 : decode cL_law 18 = .ok (.invokestatic 71, 3) := by decide +kernel
theorem dL_law_21 : decode cL_law 21 = .ok (.istore_n 3, 1) := by decide +kernel
theorem dL_law_22 : decode cL_law 22 = .ok (.bipush 9, 2) := by decide +kernel
theorem dL_law_24 : decode cL_law 24 = .ok (.iload_n 2, 1) := by decide +kernel
theorem dL_law_25 : decode cL_law 25 = .ok (.iconst 3, 1) := by decide +kernel
theorem dL_law_26 : decode cL_law 26 = .ok (.irem, 1) := by decide +kernel
theorem dL_law_27 : decode cL_law 27 = .ok (.imul, 1) := by decide +kernel
theorem dL_law_28 : decode cL_law 28 = .ok (.iload_n 3, 1) := by decide +kernel
theorem dL_law_29 : decode cL_law 29 = .ok (.iconst 4, 1) := by decide +kernel
theorem dL_law_30 : decode cL_law 30 = .ok (.invokestatic 14, 3) := by decide +kernel
theorem dL_law_33 : decode cL_law 33 = .ok (.iadd, 1) := by decide +kernel
theorem dL_law_34 : decode cL_law 34 = .ok (.istore 4, 2) := by decide +kernel
theorem dL_law_36 : decode cL_law 36 = .ok (.bipush 9, 2) := by decide +kernel
theorem dL_law_38 : decode cL_law 38 = .ok (.iload_n 2, 1) := by decide +kernel
theorem dL_law_39 : decode cL_law 39 = .ok (.iconst 3, 1) := by decide +kernel
theorem dL_law_40 : decode cL_law 40 = .ok (.idiv, 1) := by decide +kernel
theorem dL_law_41 : decode cL_law 41 = .ok (.imul, 1) := by decide +kernel
theorem dL_law_42 : decode cL_law 42 = .ok (.iload_n 3, 1) := by decide +kernel
theorem dL_law_43 : decode cL_law 43 = .ok (.iconst 3, 1) := by decide +kernel
theorem dL_law_44 : decode cL_law 44 = .ok (.ishr, 1) := by decide +kernel
theorem dL_law_45 : decode cL_law 45 = .ok (.iconst 4, 1) := by decide +kernel
theorem dL_law_46 : decode cL_law 46 = .ok (.invokestatic 14, 3) := by decide +kernel
theorem dL_law_49 : decode cL_law 49 = .ok (.iadd, 1) := by decide +kernel
theorem dL_law_50 : decode cL_law 50 = .ok (.istore 5, 2) := by decide +kernel
theorem dL_law_52 : decode cL_law 52 = .ok (.aload_n 1, 1) := by decide +kernel
theorem dL_law_53 : decode cL_law 53 = .ok (.iload 4, 2) := by decide +kernel
theorem dL_law_55 : decode cL_law 55 = .ok (.iload 5, 2) := by decide +kernel
theorem dL_law_57 : decode cL_law 57 = .ok (.invokevirtual 75, 3) := by decide +kernel
theorem dL_law_60 : decode cL_law 60 = .ok (.istore 6, 2) := by decide +kernel
theorem dL_law_62 : decode cL_law 62 = .ok (.iinc 2 1, 3) := by decide +kernel
theorem dL_law_65 : decode cL_law 65 = .ok (.goto (-55), 3) := by decide +kernel
theorem dL_law_68 : decode cL_law 68 = .ok (.aload_n 1, 1) := by decide +kernel
theorem dL_law_69 : decode cL_law 69 = .ok (.iconst 0, 1) := by decide +kernel
theorem dL_law_70 : decode cL_law 70 = .ok (.invokevirtual 20, 3) := by decide +kernel
theorem dL_law_73 : decode cL_law 73 = .ok (.istore_n 2, 1) := by decide +kernel
theorem dL_law_74 : decode cL_law 74 = .ok (.bipush 7, 2) := by decide +kernel
theorem dL_law_76 : decode cL_law 76 = .ok (.istore_n 3, 1) := by decide +kernel
theorem dL_law_77 : decode cL_law 77 = .ok (.iload_n 3, 1) := by decide +kernel
theorem dL_law_78 : decode cL_law 78 = .ok (.bipush 46, 2) := by decide +kernel
theorem dL_law_80 : decode cL_law 80 = .ok (.if_icmp .ge 75, 3) := by decide +kernel
theorem dL_law_83 : decode cL_law 83 = .ok (.aload_n 0, 1) := by decide +kernel
theorem dL_law_84 : decode cL_law 84 = .ok (.iload_n 3, 1) := by decide +kernel
theorem dL_law_85 : decode cL_law 85 = .ok (.invokestatic 71, 3) := by decide +kernel
theorem dL_law_88 : decode cL_law 88 = .ok (.istore 4, 2) := by decide +kernel
theorem dL_law_90 : decode cL_law 90 = .ok (.iload 4, 2) := by decide +kernel
theorem dL_law_92 : decode cL_law 92 = .ok (.iconst 1, 1) := by decide +kernel
theorem dL_law_93 : decode cL_law 93 = .ok (.iand, 1) := by decide +kernel
theorem dL_law_94 : decode cL_law 94 = .ok (.ifCond .ne 14, 3) := by decide +kernel
theorem dL_law_97 : decode cL_law 97 = .ok (.aload_n 1, 1) := by decide +kernel
theorem dL_law_98 : decode cL_law 98 = .ok (.iload 4, 2) := by decide +kernel
theorem dL_law_100 : decode cL_law 100 = .ok (.iconst 1, 1) := by decide +kernel
theorem dL_law_101 : decode cL_law 101 = .ok (.ishr, 1) := by decide +kernel
theorem dL_law_102 : decode cL_law 102 = .ok (.invokestatic 78, 3) := by decide +kernel
theorem dL_law_105 : decode cL_law 105 = .ok (.goto 11, 3) := by decide +kernel
theorem dL_law_108 : decode cL_law 108 = .ok (.aload_n 1, 1) := by decide +kernel
theorem dL_law_109 : decode cL_law 109 = .ok (.iload 4, 2) := by decide +kernel
theorem dL_law_111 : decode cL_law 111 = .ok (.iconst 1, 1) := by decide +kernel
theorem dL_law_112 : decode cL_law 112 = .ok (.ishr, 1) := by decide +kernel
theorem dL_law_113 : decode cL_law 113 = .ok (.invokestatic 82, 3) := by decide +kernel
theorem dL_law_116 : decode cL_law 116 = .ok (.istore 5, 2) := by decide +kernel
theorem dL_law_118 : decode cL_law 118 = .ok (.iload_n 3, 1) := by decide +kernel
theorem dL_law_119 : decode cL_law 119 = .ok (.iconst 3, 1) := by decide +kernel
theorem dL_law_120 : decode cL_law 120 = .ok (.irem, 1) := by decide +kernel
theorem dL_law_121 : decode cL_law 121 = .ok (.iconst 2, 1) := by decide +kernel
theorem dL_law_122 : decode cL_law 122 = .ok (.if_icmp .ne 10, 3) := by decide +kernel
theorem dL_law_125 : decode cL_law 125 = .ok (.aload_n 1, 1) := by decide +kernel
theorem dL_law_126 : decode cL_law 126 = .ok (.invokestatic 85, 3) := by decide +kernel
theorem dL_law_129 : decode cL_law 129 = .ok (.ifCond .eq 18, 3) := by decide +kernel
theorem dL_law_132 : decode cL_law 132 = .ok (.iload_n 3, 1) := by decide +kernel
theorem dL_law_133 : decode cL_law 133 = .ok (.bipush 7, 2) := by decide +kernel
theorem dL_law_135 : decode cL_law 135 = .ok (.irem, 1) := by decide +kernel
theorem dL_law_136 : decode cL_law 136 = .ok (.iconst 4, 1) := by decide +kernel
theorem dL_law_137 : decode cL_law 137 = .ok (.if_icmp .ne 12, 3) := by decide +kernel
theorem dL_law_140 : decode cL_law 140 = .ok (.aload_n 1, 1) := by decide +kernel
theorem dL_law_141 : decode cL_law 141 = .ok (.invokestatic 89, 3) := by decide +kernel
theorem dL_law_144 : decode cL_law 144 = .ok (.ifCond .ne 5, 3) := by decide +kernel
theorem dL_law_147 : decode cL_law 147 = .ok (.iconst 0, 1) := by decide +kernel
theorem dL_law_148 : decode cL_law 148 = .ok (.ireturn, 1) := by decide +kernel
theorem dL_law_149 : decode cL_law 149 = .ok (.iinc 3 1, 3) := by decide +kernel
theorem dL_law_152 : decode cL_law 152 = .ok (.goto (-75), 3) := by decide +kernel
theorem dL_law_155 : decode cL_law 155 = .ok (.iload_n 2, 1) := by decide +kernel
theorem dL_law_156 : decode cL_law 156 = .ok (.iconst (-1), 1) := by decide +kernel
theorem dL_law_157 : decode cL_law 157 = .ok (.if_icmp .ne 7, 3) := by decide +kernel
theorem dL_law_160 : decode cL_law 160 = .ok (.iconst 1, 1) := by decide +kernel
theorem dL_law_161 : decode cL_law 161 = .ok (.goto 4, 3) := by decide +kernel
theorem dL_law_164 : decode cL_law 164 = .ok (.iconst 0, 1) := by decide +kernel
theorem dL_law_165 : decode cL_law 165 = .ok (.ireturn, 1) := by decide +kernel
