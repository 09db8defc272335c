theorem dX5_move_50 : decode cX5_move 50 = .ok (.invokevirtual 104, 3) := by decide +kernel
theorem dX5_move_53 : decode cX5_move 53 = .ok (.ireturn, 1) := by decide +kernel
set_option maxRecDepth 20000 in
theorem ggX5_flip_X5_needPeg : GoodIn wsX5_flip wsX5_needPeg := goodIn_ca (goodIn_r _ [10, 11, 12, 5, 13, 14, 15, 16, 17, 142, 143, 144, 145, 146, 147, 148, 149, 150, 151, 152, 153, 154, 155, 156, 157, 158] (by decide +kernel) (by decide +kernel)) (goodIn_sub (fun _ h => List.mem_cons_of_mem _ (List.mem_append_right _ h)) (by decide +kernel))
set_option maxRecDepth 20000 in
theorem gX5_flip_X5_needPeg : GoodIn wsX5_flip (wsV RX5 75 RX5 yX5_needPeg wsX5_needPeg) := goodIn_app (goodIn_of _ (by decide +kernel)) ggX5_flip_X5_needPeg
set_option maxRecDepth 20000 in
theorem ggX5_flip_X5_startTrial : GoodIn wsX5_flip wsX5_startTrial := goodIn_r _ [21, 3, 5, 22, 14, 23, 24, 25, 26, 27, 28, 29, 30, 31, 32, 17, 33, 34, 35, 36, 37, 142, 143, 144, 145, 146, 147, 148, 149, 150, 151, 152, 153, 154, 155, 156, 157, 158] (by decide +kernel) (by decide +kernel)
set_option maxRecDepth 20000 in
theorem gX5_flip_X5_startTrial : GoodIn wsX5_flip (wsV RX5 54 RX5 yX5_startTrial wsX5_startTrial) := goodIn_app (goodIn_of _ (by decide +kernel)) ggX5_flip_X5_startTrial
set_option maxRecDepth 20000 in
theorem ggX5_flip_X0_tryTurnOver : GoodIn wsX5_flip wsX0_tryTurnOver := goodIn_r _ [40, 31, 32, 41, 42, 14, 43, 44, 45, 46, 47, 48, 49, 50, 51, 17, 52, 53, 54, 55, 56, 57, 58, 59, 25, 30, 60, 61, 62, 63, 64, 65, 66, 67, 37, 68, 69, 70, 71, 149, 150, 151, 152, 153, 154, 155, 156, 157, 158] (by decide +kernel) (by decide +kernel)
set_option maxRecDepth 20000 in
theorem gX5_flip_X0_tryTurnOver_n108 : GoodIn wsX5_flip (wsX0_tryTurnOver) := ggX5_flip_X0_tryTurnOver
set_option maxRecDepth 20000 in
theorem ggX5_flip_X5_keepTrial : GoodIn wsX5_flip wsX5_keepTrial := goodIn_r _ [75, 76, 5, 3, 4, 77, 78, 79, 80, 81, 82, 83, 84, 85, 14, 86, 87, 88, 89, 90, 91, 25, 30, 31, 32, 17, 33, 34, 35, 36, 37, 22, 23, 24, 26, 27, 28, 29, 92, 93, 94, 95, 96, 97, 98, 99, 100, 101, 102, 103, 104, 105, 106, 107, 41, 42, 43, 60, 61, 62, 63, 56, 57, 58, 59, 64, 65, 66, 67, 68, 69, 70, 71, 108, 109, 110, 111, 112, 113, 13, 15, 16, 114, 115, 116, 117, 118, 119, 120, 121, 122, 123, 124, 125, 126, 127, 128, 129, 130, 131, 132, 133, 134, 135, 136, 137, 9, 138, 142, 143, 144, 145, 146, 147, 148, 159, 160, 161, 149, 150, 151, 152, 153, 154, 155, 156, 157, 158, 162, 163, 164, 165, 166, 167, 168] (by decide +kernel) (by decide +kernel)
set_option maxRecDepth 20000 in
theorem gX5_flip_X5_keepTrial : GoodIn wsX5_flip (wsV RX5 68 RX5 yX5_keepTrial wsX5_keepTrial) := goodIn_app (goodIn_of _ (by decide +kernel)) ggX5_flip_X5_keepTrial
set_option maxRecDepth 20000 in
theorem ggX5_flip_X4_neighbours : GoodIn wsX5_flip wsX4_neighbours := goodIn_r _ [141, 126, 127, 128, 93, 129, 104, 149, 150, 151, 152, 153, 154, 155, 156, 157, 158, 162, 163, 164, 165, 166, 167, 168] (by decide +kernel) (by decide +kernel)
set_option maxRecDepth 20000 in
theorem gX5_flip_X4_neighbours_n104 : GoodIn wsX5_flip (wsX4_neighbours) := ggX5_flip_X4_neighbours
theorem dX5_flip_0 : decode cX5_flip 0 = .ok (.aload_n 0, 1) := by decide +kernel
theorem dX5_flip_1 : decode cX5_flip 1 = .ok (.iload_n 1, 1) := by decide +kernel
theorem dX5_flip_2 : decode cX5_flip 2 = .ok (.invokevirtual 75, 3) := by decide +kernel
theorem dX5_flip_5 : decode cX5_flip 5 = .ok (.aload_n 0, 1) := by decide +kernel
theorem dX5_flip_6 : decode cX5_flip 6 = .ok (.invokevirtual 54, 3) := by decide +kernel
theorem dX5_flip_9 : decode cX5_flip 9 = .ok (.aload_n 0, 1) := by decide +kernel
theorem dX5_flip_10 : decode cX5_flip 10 = .ok (.getfield 23, 3) := by decide +kernel
theorem dX5_flip_13 : decode cX5_flip 13 = .ok (.iload_n 1, 1) := by decide +kernel
theorem dX5_flip_14 : decode cX5_flip 14 = .ok (.invokevirtual 108, 3) := by decide +kernel
theorem dX5_flip_17 : decode cX5_flip 17 = .ok (.ifCond .ne 13, 3) := by decide +kernel
theorem dX5_flip_20 : decode cX5_flip 20 = .ok (.new 61, 3) := by decide +kernel
theorem dX5_flip_23 : decode cX5_flip 23 = .ok (.dup, 1) := by decide +kernel
theorem dX5_flip_24 : decode cX5_flip 24 = .ok (.ldc 111, 2) := by decide +kernel
theorem dX5_flip_26 : decode cX5_flip 26 = .ok (.invokespecial 65, 3) := by decide +kernel
theorem dX5_flip_29 : decode cX5_flip 29 = .ok (.athrow, 1) := by decide +kernel
theorem dX5_flip_30 : decode cX5_flip 30 = .ok (.aload_n 0, 1) := by decide +kernel
theorem dX5_flip_31 : decode cX5_flip 31 = .ok (.invokevirtual 68, 3) := by decide +kernel
theorem dX5_flip_34 : decode cX5_flip 34 = .ok (.aload_n 0, 1) := by decide +kernel
theorem dX5_flip_35 : decode cX5_flip 35 = .ok (.getfield 19, 3) := by decide +kernel
theorem dX5_flip_38 : decode cX5_flip 38 = .ok (.aload_n 0, 1) := by decide +kernel
theorem dX5_flip_39 : decode cX5_flip 39 = .ok (.getfield 12, 3) := by decide +kernel
theorem dX5_flip_42 : decode cX5_flip 42 = .ok (.iload_n 1, 1) := by decide +kernel
theorem dX5_flip_43 : decode cX5_flip 43 = .ok (.invokevirtual 104, 3) := by decide +kernel
theorem dX5_flip_46 : decode cX5_flip 46 = .ok (.ireturn, 1) := by decide +kernel
set_option maxRecDepth 20000 in
theorem ggX5_drive_X5_needPeg : GoodIn wsX5_drive wsX5_needPeg := goodIn_ca (goodIn_r _ [7, 8, 9, 1, 10, 11, 12, 13, 14, 122, 123, 124, 125, 126, 127, 128, 129, 130, 131, 132, 133, 134, 135, 136, 137, 138] (by decide +kernel) (by decide +kernel)) (goodIn_sub (fun _ h => List.mem_cons_of_mem _ (List.mem_append_right _ h)) (by decide +kernel))
set_option maxRecDepth 20000 in
theorem gX5_drive_X5_needPeg : GoodIn wsX5_drive (wsV RX5 75 RX5 yX5_needPeg wsX5_needPeg) := goodIn_app (goodIn_of _ (by decide +kernel)) ggX5_drive_X5_needPeg
set_option maxRecDepth 20000 in
theorem ggX5_drive_X5_startTrial : GoodIn wsX5_drive wsX5_startTrial := goodIn_r _ [18, 2, 1, 19, 11, 20, 21, 22, 23, 24, 25, 26, 27, 28, 29, 14, 30, 31, 32, 33, 34, 122, 123, 124, 125, 126, 127, 128, 129, 130, 131, 132, 133, 134, 135, 136, 137, 138] (by decide +kernel) (by decide +kernel)
set_option maxRecDepth 20000 in
theorem gX5_drive_X5_startTrial : GoodIn wsX5_drive (wsV RX5 54 RX5 yX5_startTrial wsX5_startTrial) := goodIn_app (goodIn_of _ (by decide +kernel)) ggX5_drive_X5_startTrial
set_option maxRecDepth 20000 in
theorem ggX5_drive_X5_keepTrial : GoodIn wsX5_drive wsX5_keepTrial := goodIn_r _ [38, 39, 1, 2, 40, 41, 42, 43, 44, 45, 46, 47, 48, 49, 11, 50, 51, 52, 53, 54, 55, 22, 27, 28, 29, 14, 30, 31, 32, 33, 34, 19, 20, 21, 23, 24, 25, 26, 56, 57, 58, 59, 60, 61, 62, 63, 64, 65, 66, 67, 68, 69, 70, 71, 72, 73, 74, 75, 76, 77, 78, 79, 80, 81, 82, 83, 84, 85, 86, 87, 88, 89, 90, 91, 92, 93, 94, 95, 96, 10, 12, 13, 97, 98, 99, 100, 101, 102, 103, 104, 105, 106, 107, 108, 109, 110, 111, 112, 113, 114, 115, 116, 117, 118, 119, 120, 6, 121, 122, 123, 124, 125, 126, 127, 128, 139, 140, 141, 129, 130, 131, 132, 133, 134, 135, 136, 137, 138, 142, 143, 144, 145, 146, 147, 148] (by decide +kernel) (by decide +kernel)
set_option maxRecDepth 20000 in
theorem gX5_drive_X5_keepTrial : GoodIn wsX5_drive (wsV RX5 68 RX5 yX5_keepTrial wsX5_keepTrial) := goodIn_app (goodIn_of _ (by decide +kernel)) ggX5_drive_X5_keepTrial
theorem dX5_drive_0 : decode cX5_drive 0 = .ok (.aload_n 0, 1) := by decide +kernel
theorem dX5_drive_1 : decode cX5_drive 1 = .ok (.iload_n 1, 1) := by decide +kernel
theorem dX5_drive_2 : decode cX5_drive 2 = .ok (.invokevirtual 75, 3) := by decide +kernel
theorem dX5_drive_5 : decode cX5_drive 5 = .ok (.aload_n 0, 1) := by decide +kernel
theorem dX5_drive_6 : decode cX5_drive 6 = .ok (.getfield 12, 3) := by decide +kernel
theorem dX5_drive_9 : decode cX5_drive 9 = .ok (.getfield 113, 3) := by decide +kernel
theorem dX5_drive_12 : decode cX5_drive 12 = .ok (.istore_n 2, 1) := by decide +kernel
theorem dX5_drive_13 : decode cX5_drive 13 = .ok (.aload_n 0, 1) := by decide +kernel
theorem dX5_drive_14 : decode cX5_drive 14 = .ok (.invokevirtual 54, 3) := by decide +kernel
theorem dX5_drive_17 : decode cX5_drive 17 = .ok (.aload_n 0, 1) := by decide +kernel
theorem dX5_drive_18 : decode cX5_drive 18 = .ok (.getfield 23, 3) := by decide +kernel
theorem dX5_drive_21 : decode cX5_drive 21 = .ok (.iload_n 1, 1) := by decide +kernel
theorem dX5_drive_22 : decode cX5_drive 22 = .ok (.putfield 113, 3) := by decide +kernel
theorem dX5_drive_25 : decode cX5_drive 25 = .ok (.aload_n 0, 1) := by decide +kernel
theorem dX5_drive_26 : decode cX5_drive 26 = .ok (.invokevirtual 68, 3) := by decide +kernel
theorem dX5_drive_29 : decode cX5_drive 29 = .ok (.iload_n 2, 1) := by decide +kernel
theorem dX5_drive_30 : decode cX5_drive 30 = .ok (.ireturn, 1) := by decide +kernel
set_option maxRecDepth 20000 in
theorem ggX5_goal_X5_needPeg : GoodIn wsX5_goal wsX5_needPeg := goodIn_ca (goodIn_r _ [8, 9, 10, 3, 11, 12, 13, 14, 15, 136, 137, 138, 139, 140, 141, 142, 143, 144, 145, 146, 147, 148, 149, 150, 151, 152] (by decide +kernel) (by decide +kernel)) (goodIn_sub (fun _ h => List.mem_cons_of_mem _ (List.mem_append_left _ (List.mem_append_right _ h))) (by decide +kernel))
set_option maxRecDepth 20000 in
theorem gX5_goal_X5_needPeg : GoodIn wsX5_goal (wsV RX5 75 RX5 yX5_needPeg wsX5_needPeg) := goodIn_app (goodIn_of _ (by decide +kernel)) ggX5_goal_X5_needPeg
set_option maxRecDepth 20000 in
theorem ggX5_goal_X5_need : GoodIn wsX5_goal wsX5_need := goodIn_ca (goodIn_r _ [18, 19, 20] (by decide +kernel) (by decide +kernel)) (goodIn_sub (fun _ h => List.mem_cons_of_mem _ (List.mem_append_right _ h)) (by decide +kernel))
set_option maxRecDepth 20000 in
theorem gX5_goal_X5_need : GoodIn wsX5_goal (va_wsS RX5 86 yX5_need wsX5_need) := goodIn_app (goodIn_of _ (by decide +kernel)) ggX5_goal_X5_need
set_option maxRecDepth 20000 in
theorem ggX5_goal_X5_startTrial : GoodIn wsX5_goal wsX5_startTrial := goodIn_r _ [24, 1, 3, 25, 12, 26, 27, 28, 29, 30, 31, 32, 33, 34, 35, 15, 36, 37, 38, 39, 40, 136, 137, 138, 139, 140, 141, 142, 143, 144, 145, 146, 147, 148, 149, 150, 151, 152] (by decide +kernel) (by decide +kernel)
set_option maxRecDepth 20000 in
theorem gX5_goal_X5_startTrial : GoodIn wsX5_goal (wsV RX5 54 RX5 yX5_startTrial wsX5_startTrial) := goodIn_app (goodIn_of _ (by decide +kernel)) ggX5_goal_X5_startTrial
set_option maxRecDepth 20000 in
theorem ggX5_goal_X0_setGoal : GoodIn wsX5_goal wsX0_setGoal := goodIn_r _ [43, 37, 38, 39, 44, 7, 45, 143, 144, 145, 146, 147, 148, 149, 150, 151, 152] (by decide +kernel) (by decide +kernel)
set_option maxRecDepth 20000 in
theorem gX5_goal_X0_setGoal_n116 : GoodIn wsX5_goal (wsX0_setGoal) := ggX5_goal_X0_setGoal
set_option maxRecDepth 20000 in
theorem ggX5_goal_X5_keepTrial : GoodIn wsX5_goal wsX5_keepTrial := goodIn_r _ [49, 50, 3, 1, 2, 51, 52, 53, 54, 55, 56, 57, 58, 59, 12, 60, 61, 62, 63, 64, 65, 28, 33, 34, 35, 15, 36, 37, 38, 39, 40, 25, 26, 27, 29, 30, 31, 32, 66, 67, 68, 69, 70, 71, 72, 73, 74, 75, 76, 77, 78, 79, 80, 81, 82, 83, 84, 85, 86, 87, 88, 89, 90, 91, 92, 93, 94, 95, 96, 97, 98, 99, 100, 101, 102, 103, 104, 105, 106, 11, 13, 14, 107, 108, 109, 110, 111, 112, 113, 114, 115, 116, 117, 118, 119, 120, 121, 122, 123, 124, 125, 126, 127, 128, 129, 44, 7, 45, 136, 137, 138, 139, 140, 141, 142, 153, 154, 155, 143, 144, 145, 146, 147, 148, 149, 150, 151, 152, 156, 157, 158, 159, 160, 161, 162] (by decide +kernel) (by decide +kernel)
set_option maxRecDepth 20000 in
theorem gX5_goal_X5_keepTrial : GoodIn wsX5_goal (wsV RX5 68 RX5 yX5_keepTrial wsX5_keepTrial) := goodIn_app (goodIn_of _ (by decide +kernel)) ggX5_goal_X5_keepTrial
set_option maxRecDepth 20000 in
theorem ggX5_goal_X4_reachesGoal : GoodIn wsX5_goal wsX4_reachesGoal := goodIn_r _ [132, 105, 106, 11, 12, 13, 14, 15, 143, 144, 145, 146, 147, 148, 149, 150, 151, 152, 156, 157, 158, 159, 160, 161, 162] (by decide +kernel) (by decide +kernel)
set_option maxRecDepth 20000 in
theorem gX5_goal_X4_reachesGoal_n120 : GoodIn wsX5_goal (wsX4_reachesGoal) := ggX5_goal_X4_reachesGoal
set_option maxRecDepth 20000 in
theorem ggX5_goal_X5_toNumber : GoodIn wsX5_goal wsX5_toNumber := goodIn_r _ [135] (by decide +kernel) (by decide +kernel)
set_option maxRecDepth 20000 in
theorem gX5_goal_X5_toNumber : GoodIn wsX5_goal (va_wsS RX5 124 yX5_toNumber wsX5_toNumber) := goodIn_app (goodIn_of _ (by decide +kernel)) ggX5_goal_X5_toNumber
theorem dX5_goal_0 : decode cX5_goal 0 = .ok (.aload_n 0, 1) := by decide +kernel
theorem dX5_goal_1 : decode cX5_goal 1 = .ok (.iload_n 1, 1) := by decide +kernel
theorem dX5_goal_2 : decode cX5_goal 2 = .ok (.invokevirtual 75, 3) := by decide +kernel
theorem dX5_goal_5 : decode cX5_goal 5 = .ok (.iload_n 2, 1) := by decide +kernel
theorem dX5_goal_6 : decode cX5_goal 6 = .ok (.bipush (-99), 2) := by decide +kernel
theorem dX5_goal_8 : decode cX5_goal 8 = .ok (.if_icmp .lt 13, 3) := by decide +kernel
theorem dX5_goal_11 : decode cX5_goal 11 = .ok (.iload_n 2, 1) := by decide +kernel
theorem dX5_goal_12 : decode cX5_goal 12 = .ok (.bipush 99, 2) := by decide +kernel
theorem dX5_goal_14 : decode cX5_goal 14 = .ok (.if_icmp .gt 7, 3) := by decide +kernel
theorem dX5_goal_17 : decode cX5_goal 17 = .ok (.iconst 1, 1) := by decide +kernel
theorem dX5_goal_18 : decode cX5_goal 18 = .ok (.goto 4, 3) := by decide +kernel
theorem dX5_goal_21 : decode cX5_goal 21 = .ok (.iconst 0, 1) := by decide +kernel
theorem dX5_goal_22 : decode cX5_goal 22 = .ok (.invokestatic 86, 3) := by decide +kernel
theorem dX5_goal_25 : decode cX5_goal 25 = .ok (.iload_n 3, 1) := by decide +kernel
theorem dX5_goal_26 : decode cX5_goal 26 = .ok (.iconst 1, 1) := by decide +kernel
theorem dX5_goal_27 : decode cX5_goal 27 = .ok (.if_icmp .lt 13, 3) := by decide +kernel
theorem dX5_goal_30 : decode cX5_goal 30 = .ok (.iload_n 3, 1) := by decide +kernel
theorem dX5_goal_31 : decode cX5_goal 31 = .ok (.bipush 99, 2) := by decide +kernel
theorem dX5_goal_33 : decode cX5_goal 33 = .ok (.if_icmp .gt 7, 3) := by decide +kernel
theorem dX5_goal_36 : decode cX5_goal 36 = .ok (.iconst 1, 1) := by decide +kernel
theorem dX5_goal_37 : decode cX5_goal 37 = .ok (.goto 4, 3) := by decide +kernel
theorem dX5_goal_40 : decode cX5_goal 40 = .ok (.iconst 0, 1) := by decide +kernel
theorem dX5_goal_41 : decode cX5_goal 41 = .ok (.invokestatic 86, 3) := by decide +kernel
theorem dX5_goal_44 : decode cX5_goal 44 = .ok (.aload_n 0, 1) := by decide +kernel
theorem dX5_goal_45 : decode cX5_goal 45 = .ok (.invokevirtual 54, 3) := by decide +kernel
theorem dX5_goal_48 : decode cX5_goal 48 = .ok (.aload_n 0, 1) := by decide +kernel
theorem dX5_goal_49 : decode cX5_goal 49 = .ok (.getfield 23, 3) := by decide +kernel
theorem dX5_goal_52 : decode cX5_goal 52 = .ok (.iload_n 1, 1) := by decide +kernel
theorem dX5_goal_53 : decode cX5_goal 53 = .ok (.iload_n 2, 1) := by decide +kernel
theorem dX5_goal_54 : decode cX5_goal 54 = .ok (.iload_n 3, 1) := by decide +kernel
theorem dX5_goal_55 : decode cX5_goal 55 = .ok (.invokevirtual 116, 3) := by decide +kernel
theorem dX5_goal_58 : decode cX5_goal 58 = .ok (.aload_n 0, 1) := by decide +kernel
theorem dX5_goal_59 : decode cX5_goal 59 = .ok (.invokevirtual 68, 3) := by decide +kernel
theorem dX5_goal_62 : decode cX5_goal 62 = .ok (.aload_n 0, 1) := by decide +kernel
theorem dX5_goal_63 : decode cX5_goal 63 = .ok (.getfield 19, 3) := by decide +kernel
theorem dX5_goal_66 : decode cX5_goal 66 = .ok (.aload_n 0, 1) := by decide +kernel
theorem dX5_goal_67 : decode cX5_goal 67 = .ok (.getfield 12, 3) := by decide +kernel
theorem dX5_goal_70 : decode cX5_goal 70 = .ok (.invokevirtual 120, 3) := by decide +kernel
theorem dX5_goal_73 : decode cX5_goal 73 = .ok (.invokestatic 124, 3) := by decide +kernel
theorem dX5_goal_76 : decode cX5_goal 76 = .ok (.ireturn, 1) := by decide +kernel
set_option maxRecDepth 20000 in
theorem ggX5_set_X5_need : GoodIn wsX5_set wsX5_need := goodIn_ca (goodIn_r _ [6, 7, 8] (by decide +kernel) (by decide +kernel)) (goodIn_sub (fun _ h => List.mem_cons_of_mem _ (List.mem_append_right _ h)) (by decide +kernel))
set_option maxRecDepth 20000 in
theorem gX5_set_X5_need : GoodIn wsX5_set (va_wsS RX5 86 yX5_need wsX5_need) := goodIn_app (goodIn_of _ (by decide +kernel)) ggX5_set_X5_need
set_option maxRecDepth 20000 in
theorem ggX5_set_X5_startTrial : GoodIn wsX5_set wsX5_startTrial := goodIn_r _ [12, 2, 1, 13, 14, 15, 16, 17, 18, 19, 20, 21, 22, 23, 24, 25, 26, 27, 28, 29, 30, 121, 122, 123, 124, 125, 126, 127, 128, 129, 130, 131, 132, 133, 134, 135, 136, 137] (by decide +kernel) (by decide +kernel)
set_option maxRecDepth 20000 in
theorem gX5_set_X5_startTrial : GoodIn wsX5_set (wsV RX5 54 RX5 yX5_startTrial wsX5_startTrial) := goodIn_app (goodIn_of _ (by decide +kernel)) ggX5_set_X5_startTrial
set_option maxRecDepth 20000 in
theorem ggX5_set_X5_keepTrial : GoodIn wsX5_set wsX5_keepTrial := goodIn_r _ [34, 35, 1, 2, 36, 37, 38, 39, 40, 41, 42, 43, 44, 45, 14, 46, 47, 48, 49, 50, 51, 17, 22, 23, 24, 25, 26, 27, 28, 29, 30, 13, 15, 16, 18, 19, 20, 21, 52, 53, 54, 55, 56, 57, 58, 59, 60, 61, 62, 63, 64, 65, 66, 67, 68, 69, 70, 71, 72, 73, 74, 75, 76, 77, 78, 79, 80, 81, 82, 83, 84, 85, 86, 87, 88, 89, 90, 91, 92, 93, 94, 95, 96, 97, 98, 99, 100, 101, 102, 103, 104, 105, 106, 107, 108, 109, 110, 111, 112, 113, 114, 115, 116, 117, 118, 119, 5, 120, 121, 122, 123, 124, 125, 126, 127, 138, 139, 140, 128, 129, 130, 131, 132, 133, 134, 135, 136, 137, 141, 142, 143, 144, 145, 146, 147] (by decide +kernel) (by decide +kernel)
set_option maxRecDepth 20000 in
theorem gX5_set_X5_keepTrial : GoodIn wsX5_set (wsV RX5 68 RX5 yX5_keepTrial wsX5_keepTrial) := goodIn_app (goodIn_of _ (by decide +kernel)) ggX5_set_X5_keepTrial
theorem dX5_set_0 : decode cX5_set 0 = .ok (.iload_n 1, 1) := by decide +kernel
theorem dX5_set_1 : decode cX5_set 1 = .ok (.ifCond .lt 12, 3) := by decide +kernel
theorem dX5_set_4 : decode cX5_set 4 = .ok (.iload_n 1, 1) := by decide +kernel
theorem dX5_set_5 : decode cX5_set 5 = .ok (.iconst 3, 1) := by decide +kernel
theorem dX5_set_6 : decode cX5_set 6 = .ok (.if_icmp .gt 7, 3) := by decide +kernel
theorem dX5_set_9 : decode cX5_set 9 = .ok (.iconst 1, 1) := by decide +kernel
theorem dX5_set_10 : decode cX5_set 10 = .ok (.goto 4, 3) := by decide +kernel
theorem dX5_set_13 : decode cX5_set 13 = .ok (.iconst 0, 1) := by decide +kernel
theorem dX5_set_14 : decode cX5_set 14 = .ok (.invokestatic 86, 3) := by decide +kernel
theorem dX5_set_17 : decode cX5_set 17 = .ok (.aload_n 0, 1) := by decide +kernel
theorem dX5_set_18 : decode cX5_set 18 = .ok (.getfield 12, 3) := by decide +kernel
theorem dX5_set_21 : decode cX5_set 21 = .ok (.getfield 128, 3) := by decide +kernel
theorem dX5_set_24 : decode cX5_set 24 = .ok (.istore_n 2, 1) := by decide +kernel
theorem dX5_set_25 : decode cX5_set 25 = .ok (.aload_n 0, 1) := by decide +kernel
theorem dX5_set_26 : decode cX5_set 26 = .ok (.invokevirtual 54, 3) := by decide +kernel
theorem dX5_set_29 : decode cX5_set 29 = .ok (.aload_n 0, 1) := by decide +kernel
theorem dX5_set_30 : decode cX5_set 30 = .ok (.getfield 23, 3) := by decide +kernel
theorem dX5_set_33 : decode cX5_set 33 = .ok (.iload_n 1, 1) := by decide +kernel
theorem dX5_set_34 : decode cX5_set 34 = .ok (.putfield 128, 3) := by decide +kernel
theorem dX5_set_37 : decode cX5_set 37 = .ok (.aload_n 0, 1) := by decide +kernel
theorem dX5_set_38 : decode cX5_set 38 = .ok (.invokevirtual 68, 3) := by decide +kernel
theorem dX5_set_41 : decode cX5_set 41 = .ok (.iload_n 2, 1) := by decide +kernel
theorem dX5_set_42 : decode cX5_set 42 = .ok (.ireturn, 1) := by decide +kernel
set_option maxRecDepth 20000 in
theorem ggX5_append_X5_need : GoodIn wsX5_append wsX5_need := goodIn_ca (goodIn_r _ [7, 8, 9] (by decide +kernel) (by decide +kernel)) (goodIn_sub (fun _ h => List.mem_cons_of_mem _ (List.mem_append_right _ h)) (by decide +kernel))
set_option maxRecDepth 20000 in
theorem gX5_append_X5_need : GoodIn wsX5_append (va_wsS RX5 86 yX5_need wsX5_need) := goodIn_app (goodIn_of _ (by decide +kernel)) ggX5_append_X5_need
set_option maxRecDepth 20000 in
theorem ggX5_append_X3_tryAppend : GoodIn wsX5_append wsX3_tryAppend := goodIn_r _ [13, 14, 15, 23, 24, 25, 26, 27, 28, 29] (by decide +kernel) (by decide +kernel)
set_option maxRecDepth 20000 in
theorem gX5_append_X3_tryAppend_n131 : GoodIn wsX5_append (wsX3_tryAppend) := ggX5_append_X3_tryAppend
theorem dX5_append_0 : decode cX5_append 0 = .ok (.iload_n 1, 1) := by decide +kernel
theorem dX5_append_1 : decode cX5_append 1 = .ok (.bipush 33, 2) := by decide +kernel
theorem dX5_append_3 : decode cX5_append 3 = .ok (.if_icmp .lt 13, 3) := by decide +kernel
theorem dX5_append_6 : decode cX5_append 6 = .ok (.iload_n 1, 1) := by decide +kernel
theorem dX5_append_7 : decode cX5_append 7 = .ok (.bipush 126, 2) := by decide +kernel
theorem dX5_append_9 : decode cX5_append 9 = .ok (.if_icmp .gt 7, 3) := by decide +kernel
theorem dX5_append_12 : decode cX5_append 12 = .ok (.iconst 1, 1) := by decide +kernel
theorem dX5_append_13 : decode cX5_append 13 = .ok (.goto 4, 3) := by decide +kernel
theorem dX5_append_16 : decode cX5_append 16 = .ok (.iconst 0, 1) := by decide +kernel
theorem dX5_append_17 : decode cX5_append 17 = .ok (.invokestatic 86, 3) := by decide +kernel
theorem dX5_append_20 : decode cX5_append 20 = .ok (.aload_n 0, 1) := by decide +kernel
theorem dX5_append_21 : decode cX5_append 21 = .ok (.getfield 39, 3) := by decide +kernel
theorem dX5_append_24 : decode cX5_append 24 = .ok (.iload_n 1, 1) := by decide +kernel
theorem dX5_append_25 : decode cX5_append 25 = .ok (.invokevirtual 131, 3) := by decide +kernel
theorem dX5_append_28 : decode cX5_append 28 = .ok (.ifCond .ne 13, 3) := by decide +kernel
theorem dX5_append_31 : decode cX5_append 31 = .ok (.new 61, 3) := by decide +kernel
theorem dX5_append_34 : decode cX5_append 34 = .ok (.dup, 1) := by decide +kernel
theorem dX5_append_35 : decode cX5_append 35 = .ok (.ldc 134, 2) := by decide +kernel
theorem dX5_append_37 : decode cX5_append 37 = .ok (.invokespecial 65, 3) := by decide +kernel
theorem dX5_append_40 : decode cX5_append 40 = .ok (.athrow, 1) := by decide +kernel
theorem dX5_append_41 : decode cX5_append 41 = .ok (.aload_n 0, 1) := by decide +kernel
theorem dX5_append_42 : decode cX5_append 42 = .ok (.getfield 39, 3) := by decide +kernel
theorem dX5_append_45 : decode cX5_append 45 = .ok (.getfield 136, 3) := by decide +kernel
theorem dX5_append_48 : decode cX5_append 48 = .ok (.ireturn, 1) := by decide +kernel
theorem dX5_clearBuffer_0 : decode cX5_clearBuffer 0 = .ok (.aload_n 0, 1) := by decide +kernel
theorem dX5_clearBuffer_1 : decode cX5_clearBuffer 1 = .ok (.getfield 39, 3) := by decide +kernel
theorem dX5_clearBuffer_4 : decode cX5_clearBuffer 4 = .ok (.getfield 136, 3) := by decide +kernel
theorem dX5_clearBuffer_7 : decode cX5_clearBuffer 7 = .ok (.istore_n 1, 1) := by decide +kernel
theorem dX5_clearBuffer_8 : decode cX5_clearBuffer 8 = .ok (.aload_n 0, 1) := by decide +kernel
theorem dX5_clearBuffer_9 : decode cX5_clearBuffer 9 = .ok (.getfield 39, 3) := by decide +kernel
theorem dX5_clearBuffer_12 : decode cX5_clearBuffer 12 = .ok (.iconst 0, 1) := by decide +kernel
theorem dX5_clearBuffer_13 : decode cX5_clearBuffer 13 = .ok (.putfield 136, 3) := by decide +kernel
theorem dX5_clearBuffer_16 : decode cX5_clearBuffer 16 = .ok (.iload_n 1, 1) := by decide +kernel
theorem dX5_clearBuffer_17 : decode cX5_clearBuffer 17 = .ok (.ireturn, 1) := by decide +kernel
set_option maxRecDepth 20000 in
theorem ggX5_firstError_X3_read : GoodIn wsX5_firstError wsX3_read := goodIn_r _ [5, 6, 7, 8, 9, 10, 11, 12, 3, 13, 14, 15, 16, 17, 18, 19, 20, 21, 22, 23, 24, 25, 26, 27, 28, 29, 30, 31, 32, 33, 34, 35, 43, 44, 45, 46, 47, 48, 49] (by decide +kernel) (by decide +kernel)
set_option maxRecDepth 20000 in
theorem gX5_firstError_X3_read_n139 : GoodIn wsX5_firstError (wsX3_read) := ggX5_firstError_X3_read
theorem dX5_firstError_0 : decode cX5_firstError 0 = .ok (.aload_n 0, 1) := by decide +kernel
theorem dX5_firstError_1 : decode cX5_firstError 1 = .ok (.getfield 39, 3) := by decide +kernel
theorem dX5_firstError_4 : decode cX5_firstError 4 = .ok (.invokevirtual 139, 3) := by decide +kernel
theorem dX5_firstError_7 : decode cX5_firstError 7 = .ok (.aload_n 0, 1) := by decide +kernel
theorem dX5_firstError_8 : decode cX5_firstError 8 = .ok (.getfield 39, 3) := by decide +kernel
theorem dX5_firstError_11 : decode cX5_firstError 11 = .ok (.getfield 142, 3) := by decide +kernel
theorem dX5_firstError_14 : decode cX5_firstError 14 = .ok (.ireturn, 1) := by decide +kernel
set_option maxRecDepth 20000 in
theorem ggX5_build_X3_read : GoodIn wsX5_build wsX3_read := goodIn_r _ [5, 6, 7, 8, 9, 10, 11, 12, 3, 13, 14, 15, 16, 17, 18, 19, 20, 21, 22, 23, 24, 25, 26, 27, 28, 29, 30, 31, 32, 33, 34, 35, 199, 200, 201, 202, 203, 204, 205] (by decide +kernel) (by decide +kernel)
set_option maxRecDepth 20000 in
theorem gX5_build_X3_read_n139 : GoodIn wsX5_build (wsX3_read) := ggX5_build_X3_read
set_option maxRecDepth 20000 in
theorem ggX5_build_X5_need : GoodIn wsX5_build wsX5_need := goodIn_ca (goodIn_r _ [39, 40, 41] (by decide +kernel) (by decide +kernel)) (goodIn_sub (fun _ h => List.mem_cons_of_mem _ (List.mem_append_right _ h)) (by decide +kernel))
set_option maxRecDepth 20000 in
theorem gX5_build_X5_need : GoodIn wsX5_build (va_wsS RX5 86 yX5_need wsX5_need) := goodIn_app (goodIn_of _ (by decide +kernel)) ggX5_build_X5_need
set_option maxRecDepth 20000 in
theorem ggX5_build_X5_startTrial : GoodIn wsX5_build wsX5_startTrial := goodIn_r _ [45, 46, 47, 48, 49, 50, 51, 52, 53, 54, 55, 56, 57, 58, 59, 60, 61, 62, 63, 64, 65, 192, 193, 194, 195, 196, 197, 198, 206, 207, 208, 209, 210, 211, 212, 213, 214, 215] (by decide +kernel) (by decide +kernel)
set_option maxRecDepth 20000 in
theorem gX5_build_X5_startTrial : GoodIn wsX5_build (wsV RX5 54 RX5 yX5_startTrial wsX5_startTrial) := goodIn_app (goodIn_of _ (by decide +kernel)) ggX5_build_X5_startTrial
set_option maxRecDepth 20000 in
theorem ggX5_build_X5_doOrder : GoodIn wsX5_build wsX5_doOrder := goodIn_r _ [69, 1, 46, 70, 3, 71, 72, 28, 73, 49, 74, 75, 60, 52, 57, 76, 77, 78, 79, 80, 81, 82, 83, 58, 59, 84, 85, 86, 87, 88, 38, 89, 90, 91, 92, 93, 94, 95, 96, 97, 98, 99, 100, 101, 102, 103, 104, 105, 106, 107, 108, 109, 110, 111, 112, 113, 114, 115, 116, 65, 117, 118, 119, 120, 121, 122, 123, 61, 192, 193, 194, 195, 196, 197, 198, 199, 200, 201, 202, 203, 204, 205, 206, 207, 208, 209, 210, 211, 212, 213, 214, 215] (by decide +kernel) (by decide +kernel)
set_option maxRecDepth 20000 in
theorem gX5_build_X5_doOrder : GoodIn wsX5_build (wsV RX5 152 RX5 yX5_doOrder wsX5_doOrder) := goodIn_app (goodIn_of _ (by decide +kernel)) ggX5_build_X5_doOrder
set_option maxRecDepth 20000 in
theorem ggX5_build_X5_keepTrial : GoodIn wsX5_build wsX5_keepTrial := goodIn_r _ [127, 128, 47, 46, 129, 130, 131, 132, 133, 134, 135, 136, 137, 138, 49, 139, 140, 141, 142, 143, 144, 52, 57, 58, 59, 60, 61, 62, 63, 64, 65, 48, 50, 51, 53, 54, 55, 56, 145, 146, 147, 148, 149, 150, 151, 152, 153, 154, 155, 156, 157, 158, 159, 160, 84, 85, 86, 109, 110, 111, 112, 105, 106, 107, 108, 113, 114, 115, 116, 117, 118, 119, 120, 161, 162, 163, 164, 165, 166, 94, 95, 96, 167, 168, 169, 170, 171, 172, 173, 174, 175, 176, 177, 178, 179, 180, 181, 182, 183, 184, 185, 186, 187, 188, 189, 190, 38, 191, 192, 193, 194, 195, 196, 197, 198, 216, 217, 218, 206, 207, 208, 209, 210, 211, 212, 213, 214, 215, 219, 220, 221, 222, 223, 224, 225] (by decide +kernel) (by decide +kernel)
set_option maxRecDepth 20000 in
theorem gX5_build_X5_keepTrial : GoodIn wsX5_build (wsV RX5 68 RX5 yX5_keepTrial wsX5_keepTrial) := goodIn_app (goodIn_of _ (by decide +kernel)) ggX5_build_X5_keepTrial
theorem dX5_build_0 : decode cX5_build 0 = .ok (.aload_n 0, 1) := by decide +kernel
theorem dX5_build_1 : decode cX5_build 1 = .ok (.getfield 39, 3) := by decide +kernel
theorem dX5_build_4 : decode cX5_build 4 = .ok (.invokevirtual 139, 3) := by decide +kernel
theorem dX5_build_7 : decode cX5_build 7 = .ok (.aload_n 0, 1) := by decide +kernel
theorem dX5_build_8 : decode cX5_build 8 = .ok (.getfield 39, 3) := by decide +kernel
theorem dX5_build_11 : decode cX5_build 11 = .ok (.getfield 145, 3) := by decide +kernel
theorem dX5_build_14 : decode cX5_build 14 = .ok (.invokestatic 86, 3) := by decide +kernel
theorem dX5_build_17 : decode cX5_build 17 = .ok (.aload_n 0, 1) := by decide +kernel
theorem dX5_build_18 : decode cX5_build 18 = .ok (.invokevirtual 54, 3) := by decide +kernel
theorem dX5_build_21 : decode cX5_build 21 = .ok (.iconst 0, 1) := by decide +kernel
theorem dX5_build_22 : decode cX5_build 22 = .ok (.istore_n 1, 1) := by decide +kernel
theorem dX5_build_23 : decode cX5_build 23 = .ok (.iconst 0, 1) := by decide +kernel
theorem dX5_build_24 : decode cX5_build 24 = .ok (.istore_n 2, 1) := by decide +kernel
theorem dX5_build_25 : decode cX5_build 25 = .ok (.iload_n 2, 1) := by decide +kernel
theorem dX5_build_26 : decode cX5_build 26 = .ok (.aload_n 0, 1) := by decide +kernel
theorem dX5_build_27 : decode cX5_build 27 = .ok (.getfield 39, 3) := by decide +kernel
theorem dX5_build_30 : decode cX5_build 30 = .ok (.getfield 149, 3) := by decide +kernel
theorem dX5_build_33 : decode cX5_build 33 = .ok (.if_icmp .ge 20, 3) := by decide +kernel
theorem dX5_build_36 : decode cX5_build 36 = .ok (.aload_n 0, 1) := by decide +kernel
theorem dX5_build_37 : decode cX5_build 37 = .ok (.iload_n 2, 1) := by decide +kernel
theorem dX5_build_38 : decode cX5_build 38 = .ok (.invokevirtual 152, 3) := by decide +kernel
theorem dX5_build_41 : decode cX5_build 41 = .ok (.ifCond .eq 12, 3) := by decide +kernel
theorem dX5_build_44 : decode cX5_build 44 = .ok (.iinc 1 1, 3) := by decide +kernel
theorem dX5_build_47 : decode cX5_build 47 = .ok (.iinc 2 1, 3) := by decide +kernel
theorem dX5_build_50 : decode cX5_build 50 = .ok (.goto (-25), 3) := by decide +kernel
theorem dX5_build_53 : decode cX5_build 53 = .ok (.aload_n 0, 1) := by decide +kernel
theorem dX5_build_54 : decode cX5_build 54 = .ok (.getfield 39, 3) := by decide +kernel
theorem dX5_build_57 : decode cX5_build 57 = .ok (.iconst 0, 1) := by decide +kernel
theorem dX5_build_58 : decode cX5_build 58 = .ok (.putfield 136, 3) := by decide +kernel
theorem dX5_build_61 : decode cX5_build 61 = .ok (.aload_n 0, 1) := by decide +kernel
theorem dX5_build_62 : decode cX5_build 62 = .ok (.invokevirtual 68, 3) := by decide +kernel
theorem dX5_build_65 : decode cX5_build 65 = .ok (.iload_n 1, 1) := by decide +kernel
theorem dX5_build_66 : decode cX5_build 66 = .ok (.ireturn, 1) := by decide +kernel
set_option maxRecDepth 20000 in
theorem ggX5_undo_X1_tryRestore : GoodIn wsX5_undo wsX1_tryRestore := goodIn_r _ [9, 10, 11, 12, 13, 14, 15, 16, 17, 18, 19, 20, 21, 22, 23, 24, 25, 26, 27, 28, 29, 30, 108, 109, 110, 111, 112, 113, 114, 115, 116, 117, 118, 119, 120] (by decide +kernel) (by decide +kernel)
set_option maxRecDepth 20000 in
theorem gX5_undo_X1_tryRestore_n155 : GoodIn wsX5_undo (wsX1_tryRestore) := ggX5_undo_X1_tryRestore
set_option maxRecDepth 20000 in
theorem ggX5_undo_X4_solve : GoodIn wsX5_undo wsX4_solve := goodIn_r _ [34, 35, 36, 37, 38, 39, 40, 41, 32, 42, 43, 44, 14, 45, 46, 47, 48, 49, 50, 51, 52, 53, 23, 24, 54, 55, 56, 57, 17, 22, 58, 59, 60, 61, 30, 62, 63, 64, 65, 66, 67, 68, 69, 70, 71, 72, 73, 74, 25, 75, 76, 77, 78, 79, 80, 81, 82, 83, 84, 85, 86, 87, 88, 89, 90, 91, 92, 93, 94, 95, 96, 97, 98, 99, 100, 121, 122, 123, 124, 125, 126, 127, 111, 112, 113, 114, 115, 116, 117, 118, 119, 120] (by decide +kernel) (by decide +kernel)
set_option maxRecDepth 20000 in
theorem gX5_undo_X4_solve_n160 : GoodIn wsX5_undo (wsX4_solve) := ggX5_undo_X4_solve
theorem dX5_undo_0 : decode cX5_undo 0 = .ok (.aload_n 0, 1) := by decide +kernel
theorem dX5_undo_1 : decode cX5_undo 1 = .ok (.getfield 46, 3) := by decide +kernel
theorem dX5_undo_4 : decode cX5_undo 4 = .ok (.aload_n 0, 1) := by decide +kernel
theorem dX5_undo_5 : decode cX5_undo 5 = .ok (.getfield 12, 3) := by decide +kernel
theorem dX5_undo_8 : decode cX5_undo 8 = .ok (.invokevirtual 155, 3) := by decide +kernel
theorem dX5_undo_11 : decode cX5_undo 11 = .ok (.ifCond .ne 13, 3) := by decide +kernel
theorem dX5_undo_14 : decode cX5_undo 14 = .ok (.new 61, 3) := by decide +kernel
theorem dX5_undo_17 : decode cX5_undo 17 = .ok (.dup, 1) := by decide +kernel
theorem dX5_undo_18 : decode cX5_undo 18 = .ok (.ldc 158, 2) := by decide +kernel
theorem dX5_undo_20 : decode cX5_undo 20 = .ok (.invokespecial 65, 3) := by decide +kernel
theorem dX5_undo_23 : decode cX5_undo 23 = .ok (.athrow, 1) := by decide +kernel
theorem dX5_undo_24 : decode cX5_undo 24 = .ok (.aload_n 0, 1) := by decide +kernel
theorem dX5_undo_25 : decode cX5_undo 25 = .ok (.getfield 19, 3) := by decide +kernel
theorem dX5_undo_28 : decode cX5_undo 28 = .ok (.aload_n 0, 1) := by decide +kernel
theorem dX5_undo_29 : decode cX5_undo 29 = .ok (.getfield 12, 3) := by decide +kernel
theorem dX5_undo_32 : decode cX5_undo 32 = .ok (.invokevirtual 160, 3) := by decide +kernel
theorem dX5_undo_35 : decode cX5_undo 35 = .ok (.aload_n 0, 1) := by decide +kernel
theorem dX5_undo_36 : decode cX5_undo 36 = .ok (.getfield 46, 3) := by decide +kernel
theorem dX5_undo_39 : decode cX5_undo 39 = .ok (.getfield 164, 3) := by decide +kernel
theorem dX5_undo_42 : decode cX5_undo 42 = .ok (.ireturn, 1) := by decide +kernel
set_option maxRecDepth 20000 in
theorem ggX5_peg_X5_needPeg : GoodIn wsX5_peg wsX5_needPeg := goodIn_ca (goodIn_r _ [5, 6, 7, 8, 9, 10, 11, 12, 13, 42, 43, 44, 45, 46, 47, 48, 49, 50, 51, 52, 53, 54, 55, 56, 57, 58] (by decide +kernel) (by decide +kernel)) (goodIn_sub (fun _ h => List.mem_cons_of_mem _ (List.mem_append_left _ (List.mem_append_right _ h))) (by decide +kernel))
set_option maxRecDepth 20000 in
theorem gX5_peg_X5_needPeg : GoodIn wsX5_peg (wsV RX5 75 RX5 yX5_needPeg wsX5_needPeg) := goodIn_app (goodIn_of _ (by decide +kernel)) ggX5_peg_X5_needPeg
set_option maxRecDepth 20000 in
theorem ggX5_peg_X5_need : GoodIn wsX5_peg wsX5_need := goodIn_ca (goodIn_r _ [16, 17, 18] (by decide +kernel) (by decide +kernel)) (goodIn_sub (fun _ h => List.mem_cons_of_mem _ (List.mem_append_right _ h)) (by decide +kernel))
set_option maxRecDepth 20000 in
theorem gX5_peg_X5_need : GoodIn wsX5_peg (va_wsS RX5 86 yX5_need wsX5_need) := goodIn_app (goodIn_of _ (by decide +kernel)) ggX5_peg_X5_need
set_option maxRecDepth 20000 in
theorem ggX5_peg_X5_pegProperty : GoodIn wsX5_peg wsX5_pegProperty := goodIn_r _ [22, 8, 23, 24, 10, 25, 26, 27, 28, 29, 30, 31, 32, 33, 34, 35, 36, 37, 38, 39, 40, 4, 41, 42, 43, 44, 45, 46, 47, 48, 49, 50, 51, 52, 53, 54, 55, 56, 57, 58, 59, 60, 61, 62, 63, 64, 65] (by decide +kernel) (by decide +kernel)
set_option maxRecDepth 20000 in
theorem gX5_peg_X5_pegProperty : GoodIn wsX5_peg (wsV RX5 167 RX5 yX5_pegProperty wsX5_pegProperty) := goodIn_app (goodIn_of _ (by decide +kernel)) ggX5_peg_X5_pegProperty
theorem dX5_peg_0 : decode cX5_peg 0 = .ok (.aload_n 0, 1) := by decide +kernel
theorem dX5_peg_1 : decode cX5_peg 1 = .ok (.iload_n 1, 1) := by decide +kernel
theorem dX5_peg_2 : decode cX5_peg 2 = .ok (.invokevirtual 75, 3) := by decide +kernel
theorem dX5_peg_5 : decode cX5_peg 5 = .ok (.iload_n 2, 1) := by decide +kernel
theorem dX5_peg_6 : decode cX5_peg 6 = .ok (.ifCond .lt 13, 3) := by decide +kernel
theorem dX5_peg_9 : decode cX5_peg 9 = .ok (.iload_n 2, 1) := by decide +kernel
theorem dX5_peg_10 : decode cX5_peg 10 = .ok (.bipush 8, 2) := by decide +kernel
theorem dX5_peg_12 : decode cX5_peg 12 = .ok (.if_icmp .gt 7, 3) := by decide +kernel
theorem dX5_peg_15 : decode cX5_peg 15 = .ok (.iconst 1, 1) := by decide +kernel
theorem dX5_peg_16 : decode cX5_peg 16 = .ok (.goto 4, 3) := by decide +kernel
theorem dX5_peg_19 : decode cX5_peg 19 = .ok (.iconst 0, 1) := by decide +kernel
theorem dX5_peg_20 : decode cX5_peg 20 = .ok (.invokestatic 86, 3) := by decide +kernel
theorem dX5_peg_23 : decode cX5_peg 23 = .ok (.aload_n 0, 1) := by decide +kernel
theorem dX5_peg_24 : decode cX5_peg 24 = .ok (.iload_n 1, 1) := by decide +kernel
theorem dX5_peg_25 : decode cX5_peg 25 = .ok (.iload_n 2, 1) := by decide +kernel
theorem dX5_peg_26 : decode cX5_peg 26 = .ok (.invokevirtual 167, 3) := by decide +kernel
theorem dX5_peg_29 : decode cX5_peg 29 = .ok (.ireturn, 1) := by decide +kernel
set_option maxRecDepth 20000 in
theorem ggX5_speed_X5_needPeg : GoodIn wsX5_speed wsX5_needPeg := goodIn_ca (goodIn_r _ [6, 7, 8, 9, 10, 11, 12, 13, 14, 20, 21, 22, 23, 24, 25, 26, 34, 35, 36, 37, 38, 39, 40, 41, 42, 43] (by decide +kernel) (by decide +kernel)) (goodIn_sub (fun _ h => List.mem_cons_of_mem _ (List.mem_append_left _ (List.mem_append_right _ h))) (by decide +kernel))
set_option maxRecDepth 20000 in
theorem gX5_speed_X5_needPeg : GoodIn wsX5_speed (wsV RX5 75 RX5 yX5_needPeg wsX5_needPeg) := goodIn_app (goodIn_of _ (by decide +kernel)) ggX5_speed_X5_needPeg
set_option maxRecDepth 20000 in
theorem ggX5_speed_X5_need : GoodIn wsX5_speed wsX5_need := goodIn_ca (goodIn_r _ [17, 18, 19] (by decide +kernel) (by decide +kernel)) (goodIn_sub (fun _ h => List.mem_cons_of_mem _ (List.mem_append_right _ h)) (by decide +kernel))
set_option maxRecDepth 20000 in
theorem gX5_speed_X5_need : GoodIn wsX5_speed (va_wsS RX5 86 yX5_need wsX5_need) := goodIn_app (goodIn_of _ (by decide +kernel)) ggX5_speed_X5_need
theorem dX5_speed_0 : decode cX5_speed 0 = .ok (.aload_n 0, 1) := by decide +kernel
theorem dX5_speed_1 : decode cX5_speed 1 = .ok (.iload_n 1, 1) := by decide +kernel
theorem dX5_speed_2 : decode cX5_speed 2 = .ok (.invokevirtual 75, 3) := by decide +kernel
theorem dX5_speed_5 : decode cX5_speed 5 = .ok (.iload_n 2, 1) := by decide +kernel
theorem dX5_speed_6 : decode cX5_speed 6 = .ok (.ifCond .eq 8, 3) := by decide +kernel
theorem dX5_speed_9 : decode cX5_speed 9 = .ok (.iload_n 2, 1) := by decide +kernel
theorem dX5_speed_10 : decode cX5_speed 10 = .ok (.iconst 1, 1) := by decide +kernel
theorem dX5_speed_11 : decode cX5_speed 11 = .ok (.if_icmp .ne 7, 3) := by decide +kernel
theorem dX5_speed_14 : decode cX5_speed 14 = .ok (.iconst 1, 1) := by decide +kernel
theorem dX5_speed_15 : decode cX5_speed 15 = .ok (.goto 4, 3) := by decide +kernel
theorem dX5_speed_18 : decode cX5_speed 18 = .ok (.iconst 0, 1) := by decide +kernel
theorem dX5_speed_19 : decode cX5_speed 19 = .ok (.invokestatic 86, 3) := by decide +kernel
theorem dX5_speed_22 : decode cX5_speed 22 = .ok (.iload_n 2, 1) := by decide +kernel
theorem dX5_speed_23 : decode cX5_speed 23 = .ok (.ifCond .ne 15, 3) := by decide +kernel
theorem dX5_speed_26 : decode cX5_speed 26 = .ok (.aload_n 0, 1) := by decide +kernel
theorem dX5_speed_27 : decode cX5_speed 27 = .ok (.getfield 19, 3) := by decide +kernel
theorem dX5_speed_30 : decode cX5_speed 30 = .ok (.getfield 171, 3) := by decide +kernel
theorem dX5_speed_33 : decode cX5_speed 33 = .ok (.iload_n 1, 1) := by decide +kernel
theorem dX5_speed_34 : decode cX5_speed 34 = .ok (.laload, 1) := by decide +kernel
theorem dX5_speed_35 : decode cX5_speed 35 = .ok (.goto 12, 3) := by decide +kernel
theorem dX5_speed_38 : decode cX5_speed 38 = .ok (.aload_n 0, 1) := by decide +kernel
theorem dX5_speed_39 : decode cX5_speed 39 = .ok (.getfield 19, 3) := by decide +kernel
theorem dX5_speed_42 : decode cX5_speed 42 = .ok (.getfield 175, 3) := by decide +kernel
theorem dX5_speed_45 : decode cX5_speed 45 = .ok (.iload_n 1, 1) := by decide +kernel
theorem dX5_speed_46 : decode cX5_speed 46 = .ok (.laload, 1) := by decide +kernel
theorem dX5_speed_47 : decode cX5_speed 47 = .ok (.lreturn, 1) := by decide +kernel
set_option maxRecDepth 20000 in
theorem ggX5_meshes_X5_needPeg : GoodIn wsX5_meshes wsX5_needPeg := goodIn_ca (goodIn_r _ [6, 7, 8, 9, 10, 11, 12, 13, 14, 20, 21, 22, 23, 24, 25, 26, 27, 28, 29, 30, 31, 32, 33, 34, 35, 36] (by decide +kernel) (by decide +kernel)) (goodIn_sub (fun _ h => List.mem_cons_of_mem _ (List.mem_append_right _ h)) (by decide +kernel))
set_option maxRecDepth 20000 in
theorem gX5_meshes_X5_needPeg : GoodIn wsX5_meshes (wsV RX5 75 RX5 yX5_needPeg wsX5_needPeg) := goodIn_app (goodIn_of _ (by decide +kernel)) ggX5_meshes_X5_needPeg
set_option maxRecDepth 20000 in
theorem ggX5_meshes_X4_levelsOf : GoodIn wsX5_meshes wsX4_levelsOf := goodIn_r _ [18, 19, 37, 38, 39, 40, 41, 42, 43] (by decide +kernel) (by decide +kernel)
set_option maxRecDepth 20000 in
theorem gX5_meshes_X4_levelsOf_n178 : GoodIn wsX5_meshes (wsX4_levelsOf) := ggX5_meshes_X4_levelsOf
theorem dX5_meshes_0 : decode cX5_meshes 0 = .ok (.aload_n 0, 1) := by decide +kernel
theorem dX5_meshes_1 : decode cX5_meshes 1 = .ok (.iload_n 1, 1) := by decide +kernel
theorem dX5_meshes_2 : decode cX5_meshes 2 = .ok (.invokevirtual 75, 3) := by decide +kernel
theorem dX5_meshes_5 : decode cX5_meshes 5 = .ok (.aload_n 0, 1) := by decide +kernel
theorem dX5_meshes_6 : decode cX5_meshes 6 = .ok (.iload_n 2, 1) := by decide +kernel
theorem dX5_meshes_7 : decode cX5_meshes 7 = .ok (.invokevirtual 75, 3) := by decide +kernel
theorem dX5_meshes_10 : decode cX5_meshes 10 = .ok (.aload_n 0, 1) := by decide +kernel
theorem dX5_meshes_11 : decode cX5_meshes 11 = .ok (.getfield 19, 3) := by decide +kernel
theorem dX5_meshes_14 : decode cX5_meshes 14 = .ok (.iload_n 1, 1) := by decide +kernel
theorem dX5_meshes_15 : decode cX5_meshes 15 = .ok (.iload_n 2, 1) := by decide +kernel
theorem dX5_meshes_16 : decode cX5_meshes 16 = .ok (.invokevirtual 178, 3) := by decide +kernel
theorem dX5_meshes_19 : decode cX5_meshes 19 = .ok (.ireturn, 1) := by decide +kernel
set_option maxRecDepth 20000 in
theorem ggX5_train_X5_needPeg : GoodIn wsX5_train wsX5_needPeg := goodIn_ca (goodIn_r _ [8, 9, 10, 2, 11, 12, 13, 14, 15, 73, 74, 75, 76, 77, 78, 79, 80, 81, 82, 83, 84, 85, 86, 87, 88, 89] (by decide +kernel) (by decide +kernel)) (goodIn_sub (fun _ h => List.mem_cons_of_mem _ (List.mem_append_left _ (List.mem_append_right _ h))) (by decide +kernel))
set_option maxRecDepth 20000 in
theorem gX5_train_X5_needPeg : GoodIn wsX5_train (wsV RX5 75 RX5 yX5_needPeg wsX5_needPeg) := goodIn_app (goodIn_of _ (by decide +kernel)) ggX5_train_X5_needPeg
set_option maxRecDepth 20000 in
theorem ggX5_train_X5_need : GoodIn wsX5_train wsX5_need := goodIn_ca (goodIn_r _ [18, 19, 20] (by decide +kernel) (by decide +kernel)) (goodIn_sub (fun _ h => List.mem_cons_of_mem _ (List.mem_append_right _ h)) (by decide +kernel))
set_option maxRecDepth 20000 in
theorem gX5_train_X5_need : GoodIn wsX5_train (va_wsS RX5 86 yX5_need wsX5_need) := goodIn_app (goodIn_of _ (by decide +kernel)) ggX5_train_X5_need
set_option maxRecDepth 20000 in
theorem ggX5_train_X2_find : GoodIn wsX5_train wsX2_find := goodIn_r _ [24, 25, 26, 27, 28, 29, 30, 31, 32, 33, 22, 34, 35, 36, 37, 38, 39, 40, 41, 42, 43, 44, 45, 46, 47, 48, 49, 50, 51, 52, 53, 54, 55, 56, 57, 58, 59, 60, 61, 62, 12, 63, 64, 7, 65, 90, 91, 92, 93, 94, 95, 80, 81, 82, 83, 84, 85, 86, 87, 88, 89, 96, 97, 98, 99, 100, 101, 102] (by decide +kernel) (by decide +kernel)
set_option maxRecDepth 20000 in
theorem gX5_train_X2_find_n181 : GoodIn wsX5_train (wsX2_find) := ggX5_train_X2_find
set_option maxRecDepth 20000 in
theorem ggX5_train_X5_rowProperty : GoodIn wsX5_train wsX5_rowProperty := goodIn_r _ [69, 1, 70, 71, 7, 72, 73, 74, 75, 76, 77, 78, 79, 90, 91, 92, 93, 94, 95] (by decide +kernel) (by decide +kernel)
set_option maxRecDepth 20000 in
theorem gX5_train_X5_rowProperty : GoodIn wsX5_train (wsV RX5 185 RX5 yX5_rowProperty wsX5_rowProperty) := goodIn_app (goodIn_of _ (by decide +kernel)) ggX5_train_X5_rowProperty
theorem dX5_train_0 : decode cX5_train 0 = .ok (.aload_n 0, 1) := by decide +kernel
theorem dX5_train_1 : decode cX5_train 1 = .ok (.iload_n 1, 1) := by decide +kernel
theorem dX5_train_2 : decode cX5_train 2 = .ok (.invokevirtual 75, 3) := by decide +kernel
theorem dX5_train_5 : decode cX5_train 5 = .ok (.aload_n 0, 1) := by decide +kernel
theorem dX5_train_6 : decode cX5_train 6 = .ok (.iload_n 2, 1) := by decide +kernel
theorem dX5_train_7 : decode cX5_train 7 = .ok (.invokevirtual 75, 3) := by decide +kernel
theorem dX5_train_10 : decode cX5_train 10 = .ok (.iload_n 3, 1) := by decide +kernel
theorem dX5_train_11 : decode cX5_train 11 = .ok (.ifCond .lt 12, 3) := by decide +kernel
theorem dX5_train_14 : decode cX5_train 14 = .ok (.iload_n 3, 1) := by decide +kernel
theorem dX5_train_15 : decode cX5_train 15 = .ok (.iconst 3, 1) := by decide +kernel
theorem dX5_train_16 : decode cX5_train 16 = .ok (.if_icmp .gt 7, 3) := by decide +kernel
theorem dX5_train_19 : decode cX5_train 19 = .ok (.iconst 1, 1) := by decide +kernel
theorem dX5_train_20 : decode cX5_train 20 = .ok (.goto 4, 3) := by decide +kernel
theorem dX5_train_23 : decode cX5_train 23 = .ok (.iconst 0, 1) := by decide +kernel
theorem dX5_train_24 : decode cX5_train 24 = .ok (.invokestatic 86, 3) := by decide +kernel
theorem dX5_train_27 : decode cX5_train 27 = .ok (.aload_n 0, 1) := by decide +kernel
theorem dX5_train_28 : decode cX5_train 28 = .ok (.getfield 32, 3) := by decide +kernel
theorem dX5_train_31 : decode cX5_train 31 = .ok (.aload_n 0, 1) := by decide +kernel
theorem dX5_train_32 : decode cX5_train 32 = .ok (.getfield 12, 3) := by decide +kernel
theorem dX5_train_35 : decode cX5_train 35 = .ok (.aload_n 0, 1) := by decide +kernel
theorem dX5_train_36 : decode cX5_train 36 = .ok (.getfield 19, 3) := by decide +kernel
theorem dX5_train_39 : decode cX5_train 39 = .ok (.iload_n 1, 1) := by decide +kernel
theorem dX5_train_40 : decode cX5_train 40 = .ok (.iload_n 2, 1) := by decide +kernel
theorem dX5_train_41 : decode cX5_train 41 = .ok (.invokevirtual 181, 3) := by decide +kernel
theorem dX5_train_44 : decode cX5_train 44 = .ok (.aload_n 0, 1) := by decide +kernel
theorem dX5_train_45 : decode cX5_train 45 = .ok (.iload_n 3, 1) := by decide +kernel
theorem dX5_train_46 : decode cX5_train 46 = .ok (.invokevirtual 185, 3) := by decide +kernel
theorem dX5_train_49 : decode cX5_train 49 = .ok (.ireturn, 1) := by decide +kernel
set_option maxRecDepth 20000 in
theorem ggX5_ratio_X5_needPeg : GoodIn wsX5_ratio wsX5_needPeg := goodIn_ca (goodIn_r _ [8, 9, 10, 2, 11, 12, 13, 14, 15, 66, 67, 68, 69, 70, 71, 72, 79, 80, 81, 82, 83, 84, 85, 86, 87, 88] (by decide +kernel) (by decide +kernel)) (goodIn_sub (fun _ h => List.mem_cons_of_mem _ (List.mem_append_left _ (List.mem_append_right _ h))) (by decide +kernel))
set_option maxRecDepth 20000 in
theorem gX5_ratio_X5_needPeg : GoodIn wsX5_ratio (wsV RX5 75 RX5 yX5_needPeg wsX5_needPeg) := goodIn_app (goodIn_of _ (by decide +kernel)) ggX5_ratio_X5_needPeg
set_option maxRecDepth 20000 in
theorem ggX5_ratio_X5_need : GoodIn wsX5_ratio wsX5_need := goodIn_ca (goodIn_r _ [18, 19, 20] (by decide +kernel) (by decide +kernel)) (goodIn_sub (fun _ h => List.mem_cons_of_mem _ (List.mem_append_right _ h)) (by decide +kernel))
set_option maxRecDepth 20000 in
theorem gX5_ratio_X5_need : GoodIn wsX5_ratio (va_wsS RX5 86 yX5_need wsX5_need) := goodIn_app (goodIn_of _ (by decide +kernel)) ggX5_ratio_X5_need
set_option maxRecDepth 20000 in
theorem ggX5_ratio_X2_find : GoodIn wsX5_ratio wsX2_find := goodIn_r _ [24, 25, 26, 27, 28, 29, 30, 31, 32, 33, 22, 34, 35, 36, 37, 38, 39, 40, 41, 42, 43, 44, 45, 46, 47, 48, 49, 50, 51, 52, 53, 54, 55, 56, 57, 58, 59, 60, 61, 62, 12, 63, 64, 7, 65, 73, 74, 75, 76, 77, 78, 79, 80, 81, 82, 83, 84, 85, 86, 87, 88, 89, 90, 91, 92, 93, 94, 95] (by decide +kernel) (by decide +kernel)
set_option maxRecDepth 20000 in
theorem gX5_ratio_X2_find_n181 : GoodIn wsX5_ratio (wsX2_find) := ggX5_ratio_X2_find
theorem dX5_ratio_0 : decode cX5_ratio 0 = .ok (.aload_n 0, 1) := by decide +kernel
theorem dX5_ratio_1 : decode cX5_ratio 1 = .ok (.iload_n 1, 1) := by decide +kernel
theorem dX5_ratio_2 : decode cX5_ratio 2 = .ok (.invokevirtual 75, 3) := by decide +kernel
theorem dX5_ratio_5 : decode cX5_ratio 5 = .ok (.aload_n 0, 1) := by decide +kernel
theorem dX5_ratio_6 : decode cX5_ratio 6 = .ok (.iload_n 2, 1) := by decide +kernel
theorem dX5_ratio_7 : decode cX5_ratio 7 = .ok (.invokevirtual 75, 3) := by decide +kernel
theorem dX5_ratio_10 : decode cX5_ratio 10 = .ok (.iload_n 3, 1) := by decide +kernel
theorem dX5_ratio_11 : decode cX5_ratio 11 = .ok (.ifCond .eq 8, 3) := by decide +kernel
theorem dX5_ratio_14 : decode cX5_ratio 14 = .ok (.iload_n 3, 1) := by decide +kernel
theorem dX5_ratio_15 : decode cX5_ratio 15 = .ok (.iconst 1, 1) := by decide +kernel
theorem dX5_ratio_16 : decode cX5_ratio 16 = .ok (.if_icmp .ne 7, 3) := by decide +kernel
theorem dX5_ratio_19 : decode cX5_ratio 19 = .ok (.iconst 1, 1) := by decide +kernel
theorem dX5_ratio_20 : decode cX5_ratio 20 = .ok (.goto 4, 3) := by decide +kernel
theorem dX5_ratio_23 : decode cX5_ratio 23 = .ok (.iconst 0, 1) := by decide +kernel
theorem dX5_ratio_24 : decode cX5_ratio 24 = .ok (.invokestatic 86, 3) := by decide +kernel
theorem dX5_ratio_27 : decode cX5_ratio 27 = .ok (.aload_n 0, 1) := by decide +kernel
theorem dX5_ratio_28 : decode cX5_ratio 28 = .ok (.getfield 32, 3) := by decide +kernel
theorem dX5_ratio_31 : decode cX5_ratio 31 = .ok (.aload_n 0, 1) := by decide +kernel
theorem dX5_ratio_32 : decode cX5_ratio 32 = .ok (.getfield 12, 3) := by decide +kernel
theorem dX5_ratio_35 : decode cX5_ratio 35 = .ok (.aload_n 0, 1) := by decide +kernel
theorem dX5_ratio_36 : decode cX5_ratio 36 = .ok (.getfield 19, 3) := by decide +kernel
theorem dX5_ratio_39 : decode cX5_ratio 39 = .ok (.iload_n 1, 1) := by decide +kernel
theorem dX5_ratio_40 : decode cX5_ratio 40 = .ok (.iload_n 2, 1) := by decide +kernel
theorem dX5_ratio_41 : decode cX5_ratio 41 = .ok (.invokevirtual 181, 3) := by decide +kernel
theorem dX5_ratio_44 : decode cX5_ratio 44 = .ok (.iload_n 3, 1) := by decide +kernel
theorem dX5_ratio_45 : decode cX5_ratio 45 = .ok (.ifCond .ne 13, 3) := by decide +kernel
theorem dX5_ratio_48 : decode cX5_ratio 48 = .ok (.aload_n 0, 1) := by decide +kernel
theorem dX5_ratio_49 : decode cX5_ratio 49 = .ok (.getfield 32, 3) := by decide +kernel
theorem dX5_ratio_52 : decode cX5_ratio 52 = .ok (.getfield 188, 3) := by decide +kernel
theorem dX5_ratio_55 : decode cX5_ratio 55 = .ok (.goto 10, 3) := by decide +kernel
theorem dX5_ratio_58 : decode cX5_ratio 58 = .ok (.aload_n 0, 1) := by decide +kernel
theorem dX5_ratio_59 : decode cX5_ratio 59 = .ok (.getfield 32, 3) := by decide +kernel
theorem dX5_ratio_62 : decode cX5_ratio 62 = .ok (.getfield 192, 3) := by decide +kernel
theorem dX5_ratio_65 : decode cX5_ratio 65 = .ok (.lreturn, 1) := by decide +kernel
set_option maxRecDepth 20000 in
theorem ggX5_marks_X4_turnsOfMarks : GoodIn wsX5_marks wsX4_turnsOfMarks := goodIn_r _ [6, 7, 8, 9, 10, 4, 11, 12, 13, 14, 15, 16, 17, 18, 19, 27, 28, 29, 30, 31, 32, 33, 34, 35, 36, 37, 38, 39, 40, 41, 42, 43] (by decide +kernel) (by decide +kernel)
set_option maxRecDepth 20000 in
theorem gX5_marks_X4_turnsOfMarks_n195 : GoodIn wsX5_marks (wsX4_turnsOfMarks) := ggX5_marks_X4_turnsOfMarks
theorem dX5_marks_0 : decode cX5_marks 0 = .ok (.aload_n 0, 1) := by decide +kernel
theorem dX5_marks_1 : decode cX5_marks 1 = .ok (.getfield 19, 3) := by decide +kernel
theorem dX5_marks_4 : decode cX5_marks 4 = .ok (.aload_n 0, 1) := by decide +kernel
theorem dX5_marks_5 : decode cX5_marks 5 = .ok (.getfield 12, 3) := by decide +kernel
theorem dX5_marks_8 : decode cX5_marks 8 = .ok (.invokevirtual 195, 3) := by decide +kernel
theorem dX5_marks_11 : decode cX5_marks 11 = .ok (.lreturn, 1) := by decide +kernel
set_option maxRecDepth 20000 in
theorem ggX5_count_X5_need : GoodIn wsX5_count wsX5_need := goodIn_ca (goodIn_r _ [4, 5, 6] (by decide +kernel) (by decide +kernel)) (goodIn_sub (fun _ h => List.mem_cons_of_mem _ (List.mem_append_right _ h)) (by decide +kernel))
set_option maxRecDepth 20000 in
theorem gX5_count_X5_need : GoodIn wsX5_count (va_wsS RX5 86 yX5_need wsX5_need) := goodIn_app (goodIn_of _ (by decide +kernel)) ggX5_count_X5_need
set_option maxRecDepth 20000 in
theorem ggX5_count_X5_countOf : GoodIn wsX5_count wsX5_countOf := goodIn_r _ [10, 11, 12, 13, 14, 15, 16, 17, 18, 19, 20, 21, 22, 23, 24, 25, 26, 27, 28, 29, 30, 31, 32, 33, 34, 35, 36, 37, 3, 38, 39, 40, 41, 42, 43, 44, 45, 46, 47, 48, 49, 50, 51, 52, 53, 54, 55, 56, 57, 58, 59, 60, 61, 62, 63, 64, 65, 66, 67, 68, 69, 70, 71, 72, 73, 74, 75, 76, 77, 78, 79, 80, 81, 82, 83, 84, 85, 86, 87, 88, 89, 90, 91, 92, 93, 94, 95, 96, 97, 98, 99, 100] (by decide +kernel) (by decide +kernel)
set_option maxRecDepth 20000 in
theorem gX5_count_X5_countOf : GoodIn wsX5_count (wsV RX5 199 RX5 yX5_countOf wsX5_countOf) := goodIn_app (goodIn_of _ (by decide +kernel)) ggX5_count_X5_countOf
theorem dX5_count_0 : decode cX5_count 0 = .ok (.iload_n 1, 1) := by decide +kernel
theorem dX5_count_1 : decode cX5_count 1 = .ok (.ifCond .lt 13, 3) := by decide +kernel
theorem dX5_count_4 : decode cX5_count 4 = .ok (.iload_n 1, 1) := by decide +kernel
theorem dX5_count_5 : decode cX5_count 5 = .ok (.bipush 10, 2) := by decide +kernel
theorem dX5_count_7 : decode cX5_count 7 = .ok (.if_icmp .gt 7, 3) := by decide +kernel
theorem dX5_count_10 : decode cX5_count 10 = .ok (.iconst 1, 1) := by decide +kernel
theorem dX5_count_11 : decode cX5_count 11 = .ok (.goto 4, 3) := by decide +kernel
theorem dX5_count_14 : decode cX5_count 14 = .ok (.iconst 0, 1) := by decide +kernel
theorem dX5_count_15 : decode cX5_count 15 = .ok (.invokestatic 86, 3) := by decide +kernel
theorem dX5_count_18 : decode cX5_count 18 = .ok (.aload_n 0, 1) := by decide +kernel
theorem dX5_count_19 : decode cX5_count 19 = .ok (.iload_n 1, 1) := by decide +kernel
theorem dX5_count_20 : decode cX5_count 20 = .ok (.invokevirtual 199, 3) := by decide +kernel
theorem dX5_count_23 : decode cX5_count 23 = .ok (.ireturn, 1) := by decide +kernel
set_option maxRecDepth 20000 in
theorem ggX5_ifPut_X5_needPeg : GoodIn wsX5_ifPut wsX5_needPeg := goodIn_ca (goodIn_r _ [7, 8, 9, 10, 11, 12, 13, 14, 15, 136, 137, 138, 139, 140, 141, 142, 150, 151, 152, 153, 154, 155, 156, 157, 158, 159] (by decide +kernel) (by decide +kernel)) (goodIn_sub (fun _ h => List.mem_cons_of_mem _ (List.mem_append_left _ (List.mem_append_right _ h))) (by decide +kernel))
set_option maxRecDepth 20000 in
theorem gX5_ifPut_X5_needPeg : GoodIn wsX5_ifPut (wsV RX5 75 RX5 yX5_needPeg wsX5_needPeg) := goodIn_app (goodIn_of _ (by decide +kernel)) ggX5_ifPut_X5_needPeg
set_option maxRecDepth 20000 in
theorem ggX5_ifPut_X5_isLevel : GoodIn wsX5_ifPut wsX5_isLevel := goodIn_r _ [18] (by decide +kernel) (by decide +kernel)
set_option maxRecDepth 20000 in
theorem gX5_ifPut_X5_isLevel : GoodIn wsX5_ifPut (va_wsS RX5 79 yX5_isLevel wsX5_isLevel) := goodIn_app (goodIn_of _ (by decide +kernel)) ggX5_ifPut_X5_isLevel
set_option maxRecDepth 20000 in
theorem ggX5_ifPut_X5_isGear : GoodIn wsX5_ifPut wsX5_isGear := goodIn_r _ [21] (by decide +kernel) (by decide +kernel)
set_option maxRecDepth 20000 in
theorem gX5_ifPut_X5_isGear : GoodIn wsX5_ifPut (va_wsS RX5 83 yX5_isGear wsX5_isGear) := goodIn_app (goodIn_of _ (by decide +kernel)) ggX5_ifPut_X5_isGear
set_option maxRecDepth 20000 in
theorem ggX5_ifPut_X5_need : GoodIn wsX5_ifPut wsX5_need := goodIn_ca (goodIn_r _ [24, 25, 26] (by decide +kernel) (by decide +kernel)) (goodIn_sub (fun _ h => List.mem_cons_of_mem _ (List.mem_append_right _ h)) (by decide +kernel))
set_option maxRecDepth 20000 in
theorem gX5_ifPut_X5_need : GoodIn wsX5_ifPut (va_wsS RX5 86 yX5_need wsX5_need) := goodIn_app (goodIn_of _ (by decide +kernel)) ggX5_ifPut_X5_need
set_option maxRecDepth 20000 in
theorem ggX5_ifPut_X5_startTrial : GoodIn wsX5_ifPut wsX5_startTrial := goodIn_r _ [30, 1, 10, 31, 12, 32, 33, 34, 35, 36, 37, 38, 39, 40, 41, 15, 42, 43, 44, 45, 46, 136, 137, 138, 139, 140, 141, 142, 150, 151, 152, 153, 154, 155, 156, 157, 158, 159] (by decide +kernel) (by decide +kernel)
set_option maxRecDepth 20000 in
theorem gX5_ifPut_X5_startTrial : GoodIn wsX5_ifPut (wsV RX5 54 RX5 yX5_startTrial wsX5_startTrial) := goodIn_app (goodIn_of _ (by decide +kernel)) ggX5_ifPut_X5_startTrial
set_option maxRecDepth 20000 in
theorem ggX5_ifPut_X5_kindOfGear : GoodIn wsX5_ifPut wsX5_kindOfGear := goodIn_r _ [49] (by decide +kernel) (by decide +kernel)
set_option maxRecDepth 20000 in
theorem gX5_ifPut_X5_kindOfGear : GoodIn wsX5_ifPut (va_wsS RX5 90 yX5_kindOfGear wsX5_kindOfGear) := goodIn_app (goodIn_of _ (by decide +kernel)) ggX5_ifPut_X5_kindOfGear
set_option maxRecDepth 20000 in
theorem ggX5_ifPut_X0_replace : GoodIn wsX5_ifPut wsX0_replace := goodIn_r _ [52, 40, 41, 53, 54, 12, 55, 150, 151, 152, 153, 154, 155, 156, 157, 158, 159] (by decide +kernel) (by decide +kernel)
set_option maxRecDepth 20000 in
theorem gX5_ifPut_X0_replace_n202 : GoodIn wsX5_ifPut (wsX0_replace) := ggX5_ifPut_X0_replace
set_option maxRecDepth 20000 in
theorem ggX5_ifPut_X0_fits : GoodIn wsX5_ifPut wsX0_fits := goodIn_r _ [58, 15, 59, 60, 61, 12, 62, 40, 41, 53, 54, 55, 63, 64, 65, 66, 34, 39, 67, 68, 69, 70, 71, 72, 73, 74, 46, 75, 76, 77, 78, 150, 151, 152, 153, 154, 155, 156, 157, 158, 159] (by decide +kernel) (by decide +kernel)
set_option maxRecDepth 20000 in
theorem gX5_ifPut_X0_fits_n206 : GoodIn wsX5_ifPut (wsX0_fits) := ggX5_ifPut_X0_fits
set_option maxRecDepth 20000 in
theorem ggX5_ifPut_X0_meshesOnLevel : GoodIn wsX5_ifPut wsX0_meshesOnLevel := goodIn_r _ [81, 15, 82, 83, 84, 12, 85, 53, 54, 55, 67, 68, 69, 70, 40, 41, 63, 64, 65, 66, 34, 39, 71, 72, 73, 74, 46, 75, 76, 77, 78, 150, 151, 152, 153, 154, 155, 156, 157, 158, 159] (by decide +kernel) (by decide +kernel)
set_option maxRecDepth 20000 in
theorem gX5_ifPut_X0_meshesOnLevel_n209 : GoodIn wsX5_ifPut (wsX0_meshesOnLevel) := ggX5_ifPut_X0_meshesOnLevel
set_option maxRecDepth 20000 in
theorem ggX5_ifPut_X4_solve : GoodIn wsX5_ifPut wsX4_solve := goodIn_r _ [89, 90, 91, 92, 93, 94, 95, 96, 87, 97, 98, 83, 12, 84, 85, 53, 54, 55, 67, 68, 69, 70, 40, 41, 63, 64, 65, 66, 34, 39, 71, 72, 73, 74, 46, 75, 76, 77, 78, 99, 100, 101, 102, 103, 104, 11, 13, 14, 15, 105, 106, 107, 108, 109, 110, 111, 112, 113, 114, 115, 116, 117, 118, 119, 120, 121, 122, 123, 124, 125, 126, 127, 128, 6, 129, 143, 144, 145, 146, 147, 148, 149, 150, 151, 152, 153, 154, 155, 156, 157, 158, 159] (by decide +kernel) (by decide +kernel)
set_option maxRecDepth 20000 in
theorem gX5_ifPut_X4_solve_n160 : GoodIn wsX5_ifPut (wsX4_solve) := ggX5_ifPut_X4_solve
set_option maxRecDepth 20000 in
theorem ggX5_ifPut_X5_toNumber : GoodIn wsX5_ifPut wsX5_toNumber := goodIn_r _ [132] (by decide +kernel) (by decide +kernel)
set_option maxRecDepth 20000 in
theorem gX5_ifPut_X5_toNumber : GoodIn wsX5_ifPut (va_wsS RX5 124 yX5_toNumber wsX5_toNumber) := goodIn_app (goodIn_of _ (by decide +kernel)) ggX5_ifPut_X5_toNumber
set_option maxRecDepth 20000 in
theorem ggX5_ifPut_X4_reachesGoal : GoodIn wsX5_ifPut wsX4_reachesGoal := goodIn_r _ [135, 103, 104, 11, 12, 13, 14, 15, 150, 151, 152, 153, 154, 155, 156, 157, 158, 159, 143, 144, 145, 146, 147, 148, 149] (by decide +kernel) (by decide +kernel)
set_option maxRecDepth 20000 in
theorem gX5_ifPut_X4_reachesGoal_n120 : GoodIn wsX5_ifPut (wsX4_reachesGoal) := ggX5_ifPut_X4_reachesGoal
theorem dX5_ifPut_0 : decode cX5_ifPut 0 = .ok (.aload_n 0, 1) := by decide +kernel
theorem dX5_ifPut_1 : decode cX5_ifPut 1 = .ok (.iload_n 1, 1) := by decide +kernel
theorem dX5_ifPut_2 : decode cX5_ifPut 2 = .ok (.invokevirtual 75, 3) := by decide +kernel
theorem dX5_ifPut_5 : decode cX5_ifPut 5 = .ok (.iload_n 2, 1) := by decide +kernel
theorem dX5_ifPut_6 : decode cX5_ifPut 6 = .ok (.invokestatic 79, 3) := by decide +kernel
theorem dX5_ifPut_9 : decode cX5_ifPut 9 = .ok (.ifCond .eq 25, 3) := by decide +kernel
theorem dX5_ifPut_12 : decode cX5_ifPut 12 = .ok (.iload_n 3, 1) := by decide +kernel
theorem dX5_ifPut_13 : decode cX5_ifPut 13 = .ok (.invokestatic 83, 3) := by decide +kernel
theorem dX5_ifPut_16 : decode cX5_ifPut 16 = .ok (.ifCond .eq 18, 3) := by decide +kernel
theorem dX5_ifPut_19 : decode cX5_ifPut 19 = .ok (.iload 4, 2) := by decide +kernel
theorem dX5_ifPut_21 : decode cX5_ifPut 21 = .ok (.ifCond .lt 13, 3) := by decide +kernel
theorem dX5_ifPut_24 : decode cX5_ifPut 24 = .ok (.iload 4, 2) := by decide +kernel
theorem dX5_ifPut_26 : decode cX5_ifPut 26 = .ok (.iconst 3, 1) := by decide +kernel
theorem dX5_ifPut_27 : decode cX5_ifPut 27 = .ok (.if_icmp .gt 7, 3) := by decide +kernel
theorem dX5_ifPut_30 : decode cX5_ifPut 30 = .ok (.iconst 1, 1) := by decide +kernel
theorem dX5_ifPut_31 : decode cX5_ifPut 31 = .ok (.goto 4, 3) := by decide +kernel
theorem dX5_ifPut_34 : decode cX5_ifPut 34 = .ok (.iconst 0, 1) := by decide +kernel
theorem dX5_ifPut_35 : decode cX5_ifPut 35 = .ok (.invokestatic 86, 3) := by decide +kernel
theorem dX5_ifPut_38 : decode cX5_ifPut 38 = .ok (.aload_n 0, 1) := by decide +kernel
theorem dX5_ifPut_39 : decode cX5_ifPut 39 = .ok (.invokevirtual 54, 3) := by decide +kernel
theorem dX5_ifPut_42 : decode cX5_ifPut 42 = .ok (.aload_n 0, 1) := by decide +kernel
theorem dX5_ifPut_43 : decode cX5_ifPut 43 = .ok (.getfield 23, 3) := by decide +kernel
theorem dX5_ifPut_46 : decode cX5_ifPut 46 = .ok (.iload_n 1, 1) := by decide +kernel
theorem dX5_ifPut_47 : decode cX5_ifPut 47 = .ok (.iload_n 2, 1) := by decide +kernel
theorem dX5_ifPut_48 : decode cX5_ifPut 48 = .ok (.iload_n 3, 1) := by decide +kernel
theorem dX5_ifPut_49 : decode cX5_ifPut 49 = .ok (.invokestatic 90, 3) := by decide +kernel
theorem dX5_ifPut_52 : decode cX5_ifPut 52 = .ok (.iload_n 3, 1) := by decide +kernel
theorem dX5_ifPut_53 : decode cX5_ifPut 53 = .ok (.invokevirtual 202, 3) := by decide +kernel
theorem dX5_ifPut_56 : decode cX5_ifPut 56 = .ok (.iload 4, 2) := by decide +kernel
theorem dX5_ifPut_58 : decode cX5_ifPut 58 = .ok (.ifCond .ne 29, 3) := by decide +kernel
theorem dX5_ifPut_61 : decode cX5_ifPut 61 = .ok (.aload_n 0, 1) := by decide +kernel
theorem dX5_ifPut_62 : decode cX5_ifPut 62 = .ok (.getfield 23, 3) := by decide +kernel
theorem dX5_ifPut_65 : decode cX5_ifPut 65 = .ok (.iload_n 1, 1) := by decide +kernel
theorem dX5_ifPut_66 : decode cX5_ifPut 66 = .ok (.iload_n 2, 1) := by decide +kernel
theorem dX5_ifPut_67 : decode cX5_ifPut 67 = .ok (.invokevirtual 206, 3) := by decide +kernel
theorem dX5_ifPut_70 : decode cX5_ifPut 70 = .ok (.ifCond .eq 15, 3) := by decide +kernel
theorem dX5_ifPut_73 : decode cX5_ifPut 73 = .ok (.aload_n 0, 1) := by decide +kernel
theorem dX5_ifPut_74 : decode cX5_ifPut 74 = .ok (.getfield 23, 3) := by decide +kernel
theorem dX5_ifPut_77 : decode cX5_ifPut 77 = .ok (.iload_n 1, 1) := by decide +kernel
theorem dX5_ifPut_78 : decode cX5_ifPut 78 = .ok (.iload_n 2, 1) := by decide +kernel
theorem dX5_ifPut_79 : decode cX5_ifPut 79 = .ok (.invokevirtual 209, 3) := by decide +kernel
theorem dX5_ifPut_82 : decode cX5_ifPut 82 = .ok (.goto 4, 3) := by decide +kernel
theorem dX5_ifPut_85 : decode cX5_ifPut 85 = .ok (.iconst (-1), 1) := by decide +kernel
theorem dX5_ifPut_86 : decode cX5_ifPut 86 = .ok (.ireturn, 1) := by decide +kernel
theorem dX5_ifPut_87 : decode cX5_ifPut 87 = .ok (.aload_n 0, 1) := by decide +kernel
theorem dX5_ifPut_88 : decode cX5_ifPut 88 = .ok (.getfield 26, 3) := by decide +kernel
theorem dX5_ifPut_91 : decode cX5_ifPut 91 = .ok (.aload_n 0, 1) := by decide +kernel
theorem dX5_ifPut_92 : decode cX5_ifPut 92 = .ok (.getfield 23, 3) := by decide +kernel
theorem dX5_ifPut_95 : decode cX5_ifPut 95 = .ok (.invokevirtual 160, 3) := by decide +kernel
theorem dX5_ifPut_98 : decode cX5_ifPut 98 = .ok (.iload 4, 2) := by decide +kernel
theorem dX5_ifPut_100 : decode cX5_ifPut 100 = .ok (.iconst 1, 1) := by decide +kernel
theorem dX5_ifPut_101 : decode cX5_ifPut 101 = .ok (.if_icmp .ne 14, 3) := by decide +kernel
theorem dX5_ifPut_104 : decode cX5_ifPut 104 = .ok (.aload_n 0, 1) := by decide +kernel
theorem dX5_ifPut_105 : decode cX5_ifPut 105 = .ok (.getfield 26, 3) := by decide +kernel
theorem dX5_ifPut_108 : decode cX5_ifPut 108 = .ok (.getfield 212, 3) := by decide +kernel
theorem dX5_ifPut_111 : decode cX5_ifPut 111 = .ok (.invokestatic 124, 3) := by decide +kernel
theorem dX5_ifPut_114 : decode cX5_ifPut 114 = .ok (.ireturn, 1) := by decide +kernel
theorem dX5_ifPut_115 : decode cX5_ifPut 115 = .ok (.iload 4, 2) := by decide +kernel
theorem dX5_ifPut_117 : decode cX5_ifPut 117 = .ok (.iconst 2, 1) := by decide +kernel
theorem dX5_ifPut_118 : decode cX5_ifPut 118 = .ok (.if_icmp .ne 11, 3) := by decide +kernel
theorem dX5_ifPut_121 : decode cX5_ifPut 121 = .ok (.aload_n 0, 1) := by decide +kernel
theorem dX5_ifPut_122 : decode cX5_ifPut 122 = .ok (.getfield 26, 3) := by decide +kernel
theorem dX5_ifPut_125 : decode cX5_ifPut 125 = .ok (.getfield 215, 3) := by decide +kernel
theorem dX5_ifPut_128 : decode cX5_ifPut 128 = .ok (.ireturn, 1) := by decide +kernel
theorem dX5_ifPut_129 : decode cX5_ifPut 129 = .ok (.aload_n 0, 1) := by decide +kernel
theorem dX5_ifPut_130 : decode cX5_ifPut 130 = .ok (.getfield 23, 3) := by decide +kernel
theorem dX5_ifPut_133 : decode cX5_ifPut 133 = .ok (.getfield 113, 3) := by decide +kernel
theorem dX5_ifPut_136 : decode cX5_ifPut 136 = .ok (.iconst (-1), 1) := by decide +kernel
theorem dX5_ifPut_137 : decode cX5_ifPut 137 = .ok (.if_icmp .eq 21, 3) := by decide +kernel
theorem dX5_ifPut_140 : decode cX5_ifPut 140 = .ok (.aload_n 0, 1) := by decide +kernel
theorem dX5_ifPut_141 : decode cX5_ifPut 141 = .ok (.getfield 26, 3) := by decide +kernel
theorem dX5_ifPut_144 : decode cX5_ifPut 144 = .ok (.aload_n 0, 1) := by decide +kernel
theorem dX5_ifPut_145 : decode cX5_ifPut 145 = .ok (.getfield 23, 3) := by decide +kernel
theorem dX5_ifPut_148 : decode cX5_ifPut 148 = .ok (.invokevirtual 120, 3) := by decide +kernel
theorem dX5_ifPut_151 : decode cX5_ifPut 151 = .ok (.ifCond .eq 7, 3) := by decide +kernel
theorem dX5_ifPut_154 : decode cX5_ifPut 154 = .ok (.iconst 1, 1) := by decide +kernel
theorem dX5_ifPut_155 : decode cX5_ifPut 155 = .ok (.goto 4, 3) := by decide +kernel
theorem dX5_ifPut_158 : decode cX5_ifPut 158 = .ok (.iconst 0, 1) := by decide +kernel
theorem dX5_ifPut_159 : decode cX5_ifPut 159 = .ok (.invokestatic 124, 3) := by decide +kernel
theorem dX5_ifPut_162 : decode cX5_ifPut 162 = .ok (.ireturn, 1) := by decide +kernel
set_option maxRecDepth 20000 in
theorem ggX5_solution_X5_need : GoodIn wsX5_solution wsX5_need := goodIn_ca (goodIn_r _ [4, 5, 6] (by decide +kernel) (by decide +kernel)) (goodIn_sub (fun _ h => List.mem_cons_of_mem _ (List.mem_append_right _ h)) (by decide +kernel))
set_option maxRecDepth 20000 in
theorem gX5_solution_X5_need : GoodIn wsX5_solution (va_wsS RX5 86 yX5_need wsX5_need) := goodIn_app (goodIn_of _ (by decide +kernel)) ggX5_solution_X5_need
set_option maxRecDepth 20000 in
theorem ggX5_solution_X5_findChange : GoodIn wsX5_solution wsX5_findChange := goodIn_r _ [10, 11, 12, 13, 14, 15, 16, 17, 18, 19, 20, 21, 22, 23, 24, 25, 26, 3, 27, 28, 29, 30, 31, 32, 33, 34, 35, 36, 37, 38, 39, 40, 41, 42, 43, 44, 45, 46, 47, 48, 49, 50, 51, 52, 53, 54, 55, 56, 57, 58, 59, 60, 61, 62, 63, 64, 65, 66, 67, 68, 69, 70, 71, 72, 73, 74, 75, 76, 77, 78, 79, 80, 81, 82, 83, 84, 85, 86, 87, 88, 89, 90, 91, 92, 93, 94, 95, 96, 97, 98, 99, 100, 101, 102, 103, 104, 105, 106, 107, 108, 109, 110, 111, 112, 113, 114, 115, 116, 117, 118, 119, 120, 121, 122, 123, 124, 125, 126, 127, 128, 129, 130, 131, 132, 133, 134, 135, 136, 137, 138, 139, 140, 141, 142, 143, 144, 145, 146, 147, 148, 149, 150, 151, 152] (by decide +kernel) (by decide +kernel)
set_option maxRecDepth 20000 in
theorem gX5_solution_X5_findChange : GoodIn wsX5_solution (wsV RX5 218 RX5 yX5_findChange wsX5_findChange) := goodIn_app (goodIn_of _ (by decide +kernel)) ggX5_solution_X5_findChange
set_option maxRecDepth 20000 in
theorem ggX5_solution_X5_partOfChange : GoodIn wsX5_solution wsX5_partOfChange := goodIn_r _ [52] (by decide +kernel) (by decide +kernel)
set_option maxRecDepth 20000 in
theorem gX5_solution_X5_partOfChange : GoodIn wsX5_solution (va_wsS RX5 222 yX5_partOfChange wsX5_partOfChange) := goodIn_app (goodIn_of _ (by decide +kernel)) ggX5_solution_X5_partOfChange
theorem dX5_solution_0 : decode cX5_solution 0 = .ok (.iload_n 1, 1) := by decide +kernel
theorem dX5_solution_1 : decode cX5_solution 1 = .ok (.ifCond .lt 12, 3) := by decide +kernel
theorem dX5_solution_4 : decode cX5_solution 4 = .ok (.iload_n 1, 1) := by decide +kernel
theorem dX5_solution_5 : decode cX5_solution 5 = .ok (.iconst 2, 1) := by decide +kernel
theorem dX5_solution_6 : decode cX5_solution 6 = .ok (.if_icmp .gt 7, 3) := by decide +kernel
theorem dX5_solution_9 : decode cX5_solution 9 = .ok (.iconst 1, 1) := by decide +kernel
theorem dX5_solution_10 : decode cX5_solution 10 = .ok (.goto 4, 3) := by decide +kernel
theorem dX5_solution_13 : decode cX5_solution 13 = .ok (.iconst 0, 1) := by decide +kernel
theorem dX5_solution_14 : decode cX5_solution 14 = .ok (.invokestatic 86, 3) := by decide +kernel
theorem dX5_solution_17 : decode cX5_solution 17 = .ok (.aload_n 0, 1) := by decide +kernel
theorem dX5_solution_18 : decode cX5_solution 18 = .ok (.invokevirtual 218, 3) := by decide +kernel
theorem dX5_solution_21 : decode cX5_solution 21 = .ok (.iload_n 1, 1) := by decide +kernel
theorem dX5_solution_22 : decode cX5_solution 22 = .ok (.invokestatic 222, 3) := by decide +kernel
theorem dX5_solution_25 : decode cX5_solution 25 = .ok (.ireturn, 1) := by decide +kernel
set_option maxRecDepth 20000 in
theorem ggX5_culprit_X5_freesJam : GoodIn wsX5_culprit wsX5_freesJam := goodIn_r _ [7, 8, 9, 10, 11, 12, 6, 13, 2, 14, 15, 16, 17, 18, 19, 20, 21, 22, 23, 24, 25, 26, 27, 28, 29, 30, 31, 32, 33, 34, 35, 36, 37, 38, 39, 40, 41, 42, 43, 44, 45, 46, 47, 48, 49, 50, 51, 52, 53, 54, 55, 56, 57, 58, 59, 60, 61, 62, 63, 64, 65, 66, 67, 68, 69, 70, 71, 72, 73, 74, 75, 76, 77, 78, 79, 80, 81, 82, 83, 84, 85, 86, 87, 88, 89, 90, 91, 92, 93, 94, 95, 96, 97, 98, 99, 100, 101, 102, 103, 104, 105, 106, 107, 108, 109, 110, 111, 112, 113, 114, 115, 116, 117, 118, 119, 120, 121, 122, 123, 124, 125, 126, 127] (by decide +kernel) (by decide +kernel)
set_option maxRecDepth 20000 in
theorem gX5_culprit_X5_freesJam : GoodIn wsX5_culprit (wsV RX5 225 RX5 yX5_freesJam wsX5_freesJam) := goodIn_app (goodIn_of _ (by decide +kernel)) ggX5_culprit_X5_freesJam
theorem dX5_culprit_0 : decode cX5_culprit 0 = .ok (.aload_n 0, 1) := by decide +kernel
theorem dX5_culprit_1 : decode cX5_culprit 1 = .ok (.getfield 19, 3) := by decide +kernel
theorem dX5_culprit_4 : decode cX5_culprit 4 = .ok (.getfield 212, 3) := by decide +kernel
theorem dX5_culprit_7 : decode cX5_culprit 7 = .ok (.ifCond .ne 5, 3) := by decide +kernel
theorem dX5_culprit_10 : decode cX5_culprit 10 = .ok (.iconst (-1), 1) := by decide +kernel
theorem dX5_culprit_11 : decode cX5_culprit 11 = .ok (.ireturn, 1) := by decide +kernel
theorem dX5_culprit_12 : decode cX5_culprit 12 = .ok (.iconst 0, 1) := by decide +kernel
theorem dX5_culprit_13 : decode cX5_culprit 13 = .ok (.istore_n 1, 1) := by decide +kernel
theorem dX5_culprit_14 : decode cX5_culprit 14 = .ok (.iload_n 1, 1) := by decide +kernel
theorem dX5_culprit_15 : decode cX5_culprit 15 = .ok (.aload_n 0, 1) := by decide +kernel
theorem dX5_culprit_16 : decode cX5_culprit 16 = .ok (.getfield 12, 3) := by decide +kernel
theorem dX5_culprit_19 : decode cX5_culprit 19 = .ok (.getfield 71, 3) := by decide +kernel
theorem dX5_culprit_22 : decode cX5_culprit 22 = .ok (.if_icmp .ge 30, 3) := by decide +kernel
theorem dX5_culprit_25 : decode cX5_culprit 25 = .ok (.iload_n 1, 1) := by decide +kernel
theorem dX5_culprit_26 : decode cX5_culprit 26 = .ok (.aload_n 0, 1) := by decide +kernel
theorem dX5_culprit_27 : decode cX5_culprit 27 = .ok (.getfield 12, 3) := by decide +kernel
theorem dX5_culprit_30 : decode cX5_culprit 30 = .ok (.getfield 113, 3) := by decide +kernel
theorem dX5_culprit_33 : decode cX5_culprit 33 = .ok (.if_icmp .eq 13, 3) := by decide +kernel
theorem dX5_culprit_36 : decode cX5_culprit 36 = .ok (.aload_n 0, 1) := by decide +kernel
theorem dX5_culprit_37 : decode cX5_culprit 37 = .ok (.iload_n 1, 1) := by decide +kernel
theorem dX5_culprit_38 : decode cX5_culprit 38 = .ok (.invokevirtual 225, 3) := by decide +kernel
theorem dX5_culprit_41 : decode cX5_culprit 41 = .ok (.ifCond .eq 5, 3) := by decide +kernel
theorem dX5_culprit_44 : decode cX5_culprit 44 = .ok (.iload_n 1, 1) := by decide +kernel
theorem dX5_culprit_45 : decode cX5_culprit 45 = .ok (.ireturn, 1) := by decide +kernel
theorem dX5_culprit_46 : decode cX5_culprit 46 = .ok (.iinc 1 1, 3) := by decide +kernel
theorem dX5_culprit_49 : decode cX5_culprit 49 = .ok (.goto (-35), 3) := by decide +kernel
theorem dX5_culprit_52 : decode cX5_culprit 52 = .ok (.iconst (-1), 1) := by decide +kernel
theorem dX5_culprit_53 : decode cX5_culprit 53 = .ok (.ireturn, 1) := by decide +kernel
set_option maxRecDepth 20000 in
theorem ggX5_turningShare_X4_turningPegs : GoodIn wsX5_turningShare wsX4_turningPegs := goodIn_r _ [6, 7, 8, 9, 4, 10, 11, 19, 20, 21, 22, 23, 24, 25, 26, 27, 28, 29, 30, 31, 32, 33, 34, 35] (by decide +kernel) (by decide +kernel)
set_option maxRecDepth 20000 in
theorem gX5_turningShare_X4_turningPegs_n228 : GoodIn wsX5_turningShare (wsX4_turningPegs) := ggX5_turningShare_X4_turningPegs
theorem dX5_turningShare_0 : decode cX5_turningShare 0 = .ok (.aload_n 0, 1) := by decide +kernel
theorem dX5_turningShare_1 : decode cX5_turningShare 1 = .ok (.getfield 12, 3) := by decide +kernel
theorem dX5_turningShare_4 : decode cX5_turningShare 4 = .ok (.getfield 71, 3) := by decide +kernel
theorem dX5_turningShare_7 : decode cX5_turningShare 7 = .ok (.ifCond .ne 5, 3) := by decide +kernel
theorem dX5_turningShare_10 : decode cX5_turningShare 10 = .ok (.dconst 0, 1) := by decide +kernel
theorem dX5_turningShare_11 : decode cX5_turningShare 11 = .ok (.dreturn, 1) := by decide +kernel
theorem dX5_turningShare_12 : decode cX5_turningShare 12 = .ok (.aload_n 0, 1) := by decide +kernel
theorem dX5_turningShare_13 : decode cX5_turningShare 13 = .ok (.getfield 19, 3) := by decide +kernel
theorem dX5_turningShare_16 : decode cX5_turningShare 16 = .ok (.aload_n 0, 1) := by decide +kernel
theorem dX5_turningShare_17 : decode cX5_turningShare 17 = .ok (.getfield 12, 3) := by decide +kernel
theorem dX5_turningShare_20 : decode cX5_turningShare 20 = .ok (.invokevirtual 228, 3) := by decide +kernel
theorem dX5_turningShare_23 : decode cX5_turningShare 23 = .ok (.i2d, 1) := by decide +kernel
theorem dX5_turningShare_24 : decode cX5_turningShare 24 = .ok (.aload_n 0, 1) := by decide +kernel
theorem dX5_turningShare_25 : decode cX5_turningShare 25 = .ok (.getfield 12, 3) := by decide +kernel
theorem dX5_turningShare_28 : decode cX5_turningShare 28 = .ok (.getfield 71, 3) := by decide +kernel
theorem dX5_turningShare_31 : decode cX5_turningShare 31 = .ok (.i2d, 1) := by decide +kernel
theorem dX5_turningShare_32 : decode cX5_turningShare 32 = .ok (.ddiv, 1) := by decide +kernel
theorem dX5_turningShare_33 : decode cX5_turningShare 33 = .ok (.dreturn, 1) := by decide +kernel
set_option maxRecDepth 20000 in
theorem ggX5_digest_X5_countOf : GoodIn wsX5_digest wsX5_countOf := goodIn_r _ [8, 2, 9, 10, 11, 12, 13, 14, 15, 16, 17, 18, 19, 20, 21, 22, 23, 24, 25, 26, 27, 28, 29, 30, 31, 32, 33, 34, 7, 35, 36, 37, 38, 39, 40, 41, 42, 43, 44, 45, 46, 47, 48, 49, 50, 51, 52, 53, 54, 55, 56, 57, 58, 59, 60, 61, 62, 63, 64, 65, 66, 67, 68, 69, 70, 238, 239, 240, 241, 242, 243, 244, 245, 246, 247, 248, 249, 250, 251, 252, 253, 254, 255, 256, 257, 258, 259, 260, 261, 262, 263, 264] (by decide +kernel) (by decide +kernel)
set_option maxRecDepth 20000 in
theorem gX5_digest_X5_countOf : GoodIn wsX5_digest (wsV RX5 199 RX5 yX5_countOf wsX5_countOf) := goodIn_app (goodIn_of _ (by decide +kernel)) ggX5_digest_X5_countOf
set_option maxRecDepth 20000 in
theorem ggX5_digest_X5_mix : GoodIn wsX5_digest wsX5_mix := goodIn_r _ [73, 74] (by decide +kernel) (by decide +kernel)
set_option maxRecDepth 20000 in
theorem gX5_digest_X5_mix : GoodIn wsX5_digest (va_wsS RX5 234 yX5_mix wsX5_mix) := goodIn_app (goodIn_of _ (by decide +kernel)) ggX5_digest_X5_mix
set_option maxRecDepth 20000 in
theorem ggX5_digest_X5_mixPeg : GoodIn wsX5_digest wsX5_mixPeg := goodIn_r _ [78, 9, 79, 80, 81, 7, 82, 2, 18, 12, 19, 25, 21, 26, 27, 28, 29, 30, 31, 32, 83, 84, 85, 39, 33, 34, 35, 71, 72, 73, 74, 238, 239, 240, 241, 242, 243, 244, 255, 256, 257, 258, 259, 260, 261, 245, 246, 247, 248, 249, 250, 251, 252, 253, 254] (by decide +kernel) (by decide +kernel)
set_option maxRecDepth 20000 in
theorem gX5_digest_X5_mixPeg : GoodIn wsX5_digest (wsV RX5 238 RX5 yX5_mixPeg wsX5_mixPeg) := goodIn_app (goodIn_of _ (by decide +kernel)) ggX5_digest_X5_mixPeg
set_option maxRecDepth 20000 in
theorem ggX5_digest_X5_mixPair : GoodIn wsX5_digest wsX5_mixPair := goodIn_r _ [89, 90, 2, 9, 91, 92, 93, 94, 95, 96, 97, 98, 99, 100, 101, 102, 103, 104, 105, 106, 107, 108, 29, 21, 30, 31, 32, 109, 110, 111, 112, 113, 114, 115, 116, 117, 118, 119, 28, 120, 121, 122, 123, 124, 125, 18, 12, 19, 126, 7, 127, 71, 72, 73, 74, 128, 129, 130, 131, 33, 34, 35, 238, 239, 240, 241, 242, 243, 244, 265, 266, 267, 268, 269, 270, 245, 246, 247, 248, 249, 250, 251, 252, 253, 254, 255, 256, 257, 258, 259, 260, 261] (by decide +kernel) (by decide +kernel)
set_option maxRecDepth 20000 in
theorem gX5_digest_X5_mixPair : GoodIn wsX5_digest (wsV RX5 242 RX5 yX5_mixPair wsX5_mixPair) := goodIn_app (goodIn_of _ (by decide +kernel)) ggX5_digest_X5_mixPair
set_option maxRecDepth 20000 in
theorem ggX5_digest_X5_marks : GoodIn wsX5_digest wsX5_marks := goodIn_r _ [135, 9, 2, 136, 21, 137, 138, 40, 139, 140, 141, 142, 143, 83, 84, 85, 39, 126, 7, 127, 238, 239, 240, 241, 242, 243, 244, 245, 246, 247, 248, 249, 250, 251, 252, 253, 254, 255, 256, 257, 258, 259, 260, 261] (by decide +kernel) (by decide +kernel)
set_option maxRecDepth 20000 in
theorem gX5_digest_X5_marks : GoodIn wsX5_digest (wsV RX5 246 RX5 yX5_marks wsX5_marks) := goodIn_app (goodIn_of _ (by decide +kernel)) ggX5_digest_X5_marks
set_option maxRecDepth 20000 in
theorem ggX5_digest_X5_findChange : GoodIn wsX5_digest wsX5_findChange := goodIn_r _ [147, 2, 9, 36, 21, 37, 38, 39, 40, 41, 12, 42, 43, 15, 148, 149, 150, 7, 151, 152, 153, 154, 155, 56, 156, 157, 158, 159, 57, 16, 51, 160, 161, 162, 163, 66, 164, 165, 166, 167, 168, 169, 170, 171, 172, 173, 174, 175, 176, 177, 17, 18, 19, 178, 179, 180, 47, 48, 49, 50, 52, 53, 54, 55, 58, 59, 60, 61, 62, 63, 64, 65, 67, 68, 69, 70, 181, 182, 183, 184, 185, 186, 187, 188, 189, 190, 191, 32, 192, 193, 194, 195, 196, 197, 198, 199, 200, 201, 202, 203, 204, 205, 206, 207, 117, 118, 119, 28, 29, 30, 31, 208, 209, 210, 211, 212, 124, 125, 126, 127, 238, 239, 240, 241, 242, 243, 244, 245, 246, 247, 248, 249, 250, 251, 252, 253, 254, 255, 256, 257, 258, 259, 260, 261] (by decide +kernel) (by decide +kernel)
set_option maxRecDepth 20000 in
theorem gX5_digest_X5_findChange : GoodIn wsX5_digest (wsV RX5 218 RX5 yX5_findChange wsX5_findChange) := goodIn_app (goodIn_of _ (by decide +kernel)) ggX5_digest_X5_findChange
set_option maxRecDepth 20000 in
theorem ggX5_digest_X5_partOfChange : GoodIn wsX5_digest wsX5_partOfChange := goodIn_r _ [171] (by decide +kernel) (by decide +kernel)
set_option maxRecDepth 20000 in
theorem gX5_digest_X5_partOfChange : GoodIn wsX5_digest (va_wsS RX5 222 yX5_partOfChange wsX5_partOfChange) := goodIn_app (goodIn_of _ (by decide +kernel)) ggX5_digest_X5_partOfChange
set_option maxRecDepth 20000 in
theorem ggX5_digest_X5_culprit : GoodIn wsX5_digest wsX5_culprit := goodIn_r _ [216, 9, 2, 217, 218, 219, 7, 220, 152, 168, 148, 149, 150, 151, 153, 12, 154, 155, 56, 156, 157, 158, 159, 57, 16, 51, 15, 160, 161, 162, 163, 66, 175, 176, 177, 17, 18, 19, 181, 21, 182, 183, 184, 185, 186, 187, 188, 189, 190, 191, 32, 192, 193, 194, 58, 59, 60, 61, 52, 53, 54, 55, 62, 63, 64, 65, 67, 68, 69, 70, 195, 196, 197, 198, 39, 40, 41, 42, 43, 199, 200, 201, 202, 203, 204, 205, 206, 207, 117, 118, 119, 28, 29, 30, 31, 208, 209, 210, 211, 212, 124, 125, 126, 127, 238, 239, 240, 241, 242, 243, 244, 255, 256, 257, 258, 259, 260, 261, 245, 246, 247, 248, 249, 250, 251, 252, 253, 254] (by decide +kernel) (by decide +kernel)
set_option maxRecDepth 20000 in
theorem gX5_digest_X5_culprit : GoodIn wsX5_digest (wsV RX5 250 RX5 yX5_culprit wsX5_culprit) := goodIn_app (goodIn_of _ (by decide +kernel)) ggX5_digest_X5_culprit
set_option maxRecDepth 20000 in
theorem ggX5_digest_X5_turningShare : GoodIn wsX5_digest wsX5_turningShare := goodIn_r _ [224, 2, 9, 140, 21, 141, 142, 143, 83, 84, 85, 39, 238, 239, 240, 241, 242, 243, 244, 245, 246, 247, 248, 249, 250, 251, 252, 253, 254, 255, 256, 257, 258, 259, 260, 261] (by decide +kernel) (by decide +kernel)
set_option maxRecDepth 20000 in
theorem gX5_digest_X5_turningShare : GoodIn wsX5_digest (wsV RX5 253 RX5 yX5_turningShare wsX5_turningShare) := goodIn_app (goodIn_of _ (by decide +kernel)) ggX5_digest_X5_turningShare
set_option maxRecDepth 20000 in
theorem ggX5_digest_X5_bitsOfShare : GoodIn wsX5_digest wsX5_bitsOfShare := goodIn_r _ [227, 228, 229, 230, 231] (by decide +kernel) (by decide +kernel)
set_option maxRecDepth 20000 in
theorem gX5_digest_X5_bitsOfShare : GoodIn wsX5_digest (va_wsS RX5 257 yX5_bitsOfShare wsX5_bitsOfShare) := goodIn_app (goodIn_of _ (by decide +kernel)) ggX5_digest_X5_bitsOfShare
set_option maxRecDepth 20000 in
theorem ggX5_digest_X3_mixInto : GoodIn wsX5_digest wsX3_mixInto := goodIn_r _ [235, 236, 237, 72, 7, 73, 74, 271, 272, 273, 274, 275, 276, 277] (by decide +kernel) (by decide +kernel)
set_option maxRecDepth 20000 in
theorem gX5_digest_X3_mixInto_n261 : GoodIn wsX5_digest (wsX3_mixInto) := ggX5_digest_X3_mixInto
theorem dX5_digest_0 : decode cX5_digest 0 = .ok (.ldc2_w 232, 3) := by decide +kernel
theorem dX5_digest_3 : decode cX5_digest 3 = .ok (.lstore_n 1, 1) := by decide +kernel
theorem dX5_digest_4 : decode cX5_digest 4 = .ok (.iconst 0, 1) := by decide +kernel
theorem dX5_digest_5 : decode cX5_digest 5 = .ok (.istore_n 3, 1) := by decide +kernel
theorem dX5_digest_6 : decode cX5_digest 6 = .ok (.iload_n 3, 1) := by decide +kernel
theorem dX5_digest_7 : decode cX5_digest 7 = .ok (.bipush 10, 2) := by decide +kernel
theorem dX5_digest_9 : decode cX5_digest 9 = .ok (.if_icmp .gt 20, 3) := by decide +kernel
theorem dX5_digest_12 : decode cX5_digest 12 = .ok (.lload_n 1, 1) := by decide +kernel
theorem dX5_digest_13 : decode cX5_digest 13 = .ok (.aload_n 0, 1) := by decide +kernel
theorem dX5_digest_14 : decode cX5_digest 14 = .ok (.iload_n 3, 1) := by decide +kernel
theorem dX5_digest_15 : decode cX5_digest 15 = .ok (.invokevirtual 199, 3) := by decide +kernel
theorem dX5_digest_18 : decode cX5_digest 18 = .ok (.i2l, 1) := by decide +kernel
theorem dX5_digest_19 : decode cX5_digest 19 = .ok (.invokestatic 234, 3) := by decide +kernel
theorem dX5_digest_22 : decode cX5_digest 22 = .ok (.lstore_n 1, 1) := by decide +kernel
theorem dX5_digest_23 : decode cX5_digest 23 = .ok (.iinc 3 1, 3) := by decide +kernel
theorem dX5_digest_26 : decode cX5_digest 26 = .ok (.goto (-20), 3) := by decide +kernel
theorem dX5_digest_29 : decode cX5_digest 29 = .ok (.lload_n 1, 1) := by decide +kernel
theorem dX5_digest_30 : decode cX5_digest 30 = .ok (.aload_n 0, 1) := by decide +kernel
theorem dX5_digest_31 : decode cX5_digest 31 = .ok (.getfield 12, 3) := by decide +kernel
theorem dX5_digest_34 : decode cX5_digest 34 = .ok (.getfield 128, 3) := by decide +kernel
theorem dX5_digest_37 : decode cX5_digest 37 = .ok (.i2l, 1) := by decide +kernel
theorem dX5_digest_38 : decode cX5_digest 38 = .ok (.invokestatic 234, 3) := by decide +kernel
theorem dX5_digest_41 : decode cX5_digest 41 = .ok (.lstore_n 1, 1) := by decide +kernel
theorem dX5_digest_42 : decode cX5_digest 42 = .ok (.iconst 0, 1) := by decide +kernel
theorem dX5_digest_43 : decode cX5_digest 43 = .ok (.istore_n 3, 1) := by decide +kernel
theorem dX5_digest_44 : decode cX5_digest 44 = .ok (.iload_n 3, 1) := by decide +kernel
theorem dX5_digest_45 : decode cX5_digest 45 = .ok (.aload_n 0, 1) := by decide +kernel
theorem dX5_digest_46 : decode cX5_digest 46 = .ok (.getfield 12, 3) := by decide +kernel
theorem dX5_digest_49 : decode cX5_digest 49 = .ok (.getfield 71, 3) := by decide +kernel
theorem dX5_digest_52 : decode cX5_digest 52 = .ok (.if_icmp .ge 16, 3) := by decide +kernel
theorem dX5_digest_55 : decode cX5_digest 55 = .ok (.aload_n 0, 1) := by decide +kernel
theorem dX5_digest_56 : decode cX5_digest 56 = .ok (.lload_n 1, 1) := by decide +kernel
theorem dX5_digest_57 : decode cX5_digest 57 = .ok (.iload_n 3, 1) := by decide +kernel
theorem dX5_digest_58 : decode cX5_digest 58 = .ok (.invokevirtual 238, 3) := by decide +kernel
theorem dX5_digest_61 : decode cX5_digest 61 = .ok (.lstore_n 1, 1) := by decide +kernel
theorem dX5_digest_62 : decode cX5_digest 62 = .ok (.iinc 3 1, 3) := by decide +kernel
theorem dX5_digest_65 : decode cX5_digest 65 = .ok (.goto (-21), 3) := by decide +kernel
theorem dX5_digest_68 : decode cX5_digest 68 = .ok (.iconst 0, 1) := by decide +kernel
theorem dX5_digest_69 : decode cX5_digest 69 = .ok (.istore_n 3, 1) := by decide +kernel
theorem dX5_digest_70 : decode cX5_digest 70 = .ok (.iload_n 3, 1) := by decide +kernel
theorem dX5_digest_71 : decode cX5_digest 71 = .ok (.aload_n 0, 1) := by decide +kernel
theorem dX5_digest_72 : decode cX5_digest 72 = .ok (.getfield 12, 3) := by decide +kernel
theorem dX5_digest_75 : decode cX5_digest 75 = .ok (.getfield 71, 3) := by decide +kernel
theorem dX5_digest_78 : decode cX5_digest 78 = .ok (.if_icmp .ge 39, 3) := by decide +kernel
theorem dX5_digest_81 : decode cX5_digest 81 = .ok (.iconst 0, 1) := by decide +kernel
theorem dX5_digest_82 : decode cX5_digest 82 = .ok (.istore 4, 2) := by decide +kernel
theorem dX5_digest_84 : decode cX5_digest 84 = .ok (.iload 4, 2) := by decide +kernel
theorem dX5_digest_86 : decode cX5_digest 86 = .ok (.aload_n 0, 1) := by decide +kernel
theorem dX5_digest_87 : decode cX5_digest 87 = .ok (.getfield 12, 3) := by decide +kernel
theorem dX5_digest_90 : decode cX5_digest 90 = .ok (.getfield 71, 3) := by decide +kernel
theorem dX5_digest_93 : decode cX5_digest 93 = .ok (.if_icmp .ge 18, 3) := by decide +kernel
theorem dX5_digest_96 : decode cX5_digest 96 = .ok (.aload_n 0, 1) := by decide +kernel
theorem dX5_digest_97 : decode cX5_digest 97 = .ok (.lload_n 1, 1) := by decide +kernel
theorem dX5_digest_98 : decode cX5_digest 98 = .ok (.iload_n 3, 1) := by decide +kernel
theorem dX5_digest_99 : decode cX5_digest 99 = .ok (.iload 4, 2) := by decide +kernel
theorem dX5_digest_101 : decode cX5_digest 101 = .ok (.invokevirtual 242, 3) := by decide +kernel
theorem dX5_digest_104 : decode cX5_digest 104 = .ok (.lstore_n 1, 1) := by decide +kernel
theorem dX5_digest_105 : decode cX5_digest 105 = .ok (.iinc 4 1, 3) := by decide +kernel
theorem dX5_digest_108 : decode cX5_digest 108 = .ok (.goto (-24), 3) := by decide +kernel
theorem dX5_digest_111 : decode cX5_digest 111 = .ok (.iinc 3 1, 3) := by decide +kernel
theorem dX5_digest_114 : decode cX5_digest 114 = .ok (.goto (-44), 3) := by decide +kernel
theorem dX5_digest_117 : decode cX5_digest 117 = .ok (.lload_n 1, 1) := by decide +kernel
theorem dX5_digest_118 : decode cX5_digest 118 = .ok (.aload_n 0, 1) := by decide +kernel
theorem dX5_digest_119 : decode cX5_digest 119 = .ok (.invokevirtual 246, 3) := by decide +kernel
theorem dX5_digest_122 : decode cX5_digest 122 = .ok (.invokestatic 234, 3) := by decide +kernel
theorem dX5_digest_125 : decode cX5_digest 125 = .ok (.lstore_n 1, 1) := by decide +kernel
theorem dX5_digest_126 : decode cX5_digest 126 = .ok (.aload_n 0, 1) := by decide +kernel
theorem dX5_digest_127 : decode cX5_digest 127 = .ok (.invokevirtual 218, 3) := by decide +kernel
theorem dX5_digest_130 : decode cX5_digest 130 = .ok (.istore_n 3, 1) := by decide +kernel
theorem dX5_digest_131 : decode cX5_digest 131 = .ok (.iconst 0, 1) := by decide +kernel
theorem dX5_digest_132 : decode cX5_digest 132 = .ok (.istore 4, 2) := by decide +kernel
theorem dX5_digest_134 : decode cX5_digest 134 = .ok (.iload 4, 2) := by decide +kernel
theorem dX5_digest_136 : decode cX5_digest 136 = .ok (.iconst 2, 1) := by decide +kernel
theorem dX5_digest_137 : decode cX5_digest 137 = .ok (.if_icmp .gt 21, 3) := by decide +kernel
theorem dX5_digest_140 : decode cX5_digest 140 = .ok (.lload_n 1, 1) := by decide +kernel
theorem dX5_digest_141 : decode cX5_digest 141 = .ok (.iload_n 3, 1) := by decide +kernel
theorem dX5_digest_142 : decode cX5_digest 142 = .ok (.iload 4, 2) := by decide +kernel
theorem dX5_digest_144 : decode cX5_digest 144 = .ok (.invokestatic 222, 3) := by decide +kernel
theorem dX5_digest_147 : decode cX5_digest 147 = .ok (.i2l, 1) := by decide +kernel
theorem dX5_digest_148 : decode cX5_digest 148 = .ok (.invokestatic 234, 3) := by decide +kernel
theorem dX5_digest_151 : decode cX5_digest 151 = .ok (.lstore_n 1, 1) := by decide +kernel
theorem dX5_digest_152 : decode cX5_digest 152 = .ok (.iinc 4 1, 3) := by decide +kernel
theorem dX5_digest_155 : decode cX5_digest 155 = .ok (.goto (-21), 3) := by decide +kernel
theorem dX5_digest_158 : decode cX5_digest 158 = .ok (.lload_n 1, 1) := by decide +kernel
theorem dX5_digest_159 : decode cX5_digest 159 = .ok (.aload_n 0, 1) := by decide +kernel
theorem dX5_digest_160 : decode cX5_digest 160 = .ok (.invokevirtual 250, 3) := by decide +kernel
theorem dX5_digest_163 : decode cX5_digest 163 = .ok (.i2l, 1) := by decide +kernel
theorem dX5_digest_164 : decode cX5_digest 164 = .ok (.invokestatic 234, 3) := by decide +kernel
theorem dX5_digest_167 : decode cX5_digest 167 = .ok (.lstore_n 1, 1) := by decide +kernel
theorem dX5_digest_168 : decode cX5_digest 168 = .ok (.lload_n 1, 1) := by decide +kernel
theorem dX5_digest_169 : decode cX5_digest 169 = .ok (.aload_n 0, 1) := by decide +kernel
theorem dX5_digest_170 : decode cX5_digest 170 = .ok (.invokevirtual 253, 3) := by decide +kernel
theorem dX5_digest_173 : decode cX5_digest 173 = .ok (.invokestatic 257, 3) := by decide +kernel
theorem dX5_digest_176 : decode cX5_digest 176 = .ok (.invokestatic 234, 3) := by decide +kernel
theorem dX5_digest_179 : decode cX5_digest 179 = .ok (.lstore_n 1, 1) := by decide +kernel
theorem dX5_digest_180 : decode cX5_digest 180 = .ok (.aload_n 0, 1) := by decide +kernel
theorem dX5_digest_181 : decode cX5_digest 181 = .ok (.getfield 39, 3) := by decide +kernel
theorem dX5_digest_184 : decode cX5_digest 184 = .ok (.lload_n 1, 1) := by decide +kernel
theorem dX5_digest_185 : decode cX5_digest 185 = .ok (.invokevirtual 261, 3) := by decide +kernel
theorem dX5_digest_188 : decode cX5_digest 188 = .ok (.lreturn, 1) := by decide +kernel
set_option maxRecDepth 20000 in
theorem ggX5_needPeg_X0_hasPeg : GoodIn wsX5_needPeg wsX0_hasPeg := goodIn_r _ [7, 8, 16, 17, 18, 19, 20, 21, 22, 23, 24, 25] (by decide +kernel) (by decide +kernel)
set_option maxRecDepth 20000 in
theorem gX5_needPeg_X0_hasPeg_n265 : GoodIn wsX5_needPeg (wsX0_hasPeg) := ggX5_needPeg_X0_hasPeg
theorem dX5_needPeg_0 : decode cX5_needPeg 0 = .ok (.aload_n 0, 1) := by decide +kernel
theorem dX5_needPeg_1 : decode cX5_needPeg 1 = .ok (.getfield 12, 3) := by decide +kernel
theorem dX5_needPeg_4 : decode cX5_needPeg 4 = .ok (.iload_n 1, 1) := by decide +kernel
theorem dX5_needPeg_5 : decode cX5_needPeg 5 = .ok (.invokevirtual 265, 3) := by decide +kernel
theorem dX5_needPeg_8 : decode cX5_needPeg 8 = .ok (.ifCond .ne 14, 3) := by decide +kernel
theorem dX5_needPeg_11 : decode cX5_needPeg 11 = .ok (.new 268, 3) := by decide +kernel
theorem dX5_needPeg_14 : decode cX5_needPeg 14 = .ok (.dup, 1) := by decide +kernel
theorem dX5_needPeg_15 : decode cX5_needPeg 15 = .ok (.ldc_w 270, 3) := by decide +kernel
theorem dX5_needPeg_18 : decode cX5_needPeg 18 = .ok (.invokespecial 272, 3) := by decide +kernel
theorem dX5_needPeg_21 : decode cX5_needPeg 21 = .ok (.athrow, 1) := by decide +kernel
theorem dX5_needPeg_22 : decode cX5_needPeg 22 = .ok (.return_, 1) := by decide +kernel
set_option maxRecDepth 20000 in
theorem ggX5_needPlace_X5_need : GoodIn wsX5_needPlace wsX5_need := goodIn_ca (goodIn_r _ [4, 5, 6] (by decide +kernel) (by decide +kernel)) (goodIn_sub (fun _ h => List.mem_cons_of_mem _ (List.mem_append_right _ h)) (by decide +kernel))
set_option maxRecDepth 20000 in
theorem gX5_needPlace_X5_need : GoodIn wsX5_needPlace (va_wsS RX5 86 yX5_need wsX5_need) := goodIn_app (goodIn_of _ (by decide +kernel)) ggX5_needPlace_X5_need
theorem dX5_needPlace_0 : decode cX5_needPlace 0 = .ok (.iload_n 0, 1) := by decide +kernel
theorem dX5_needPlace_1 : decode cX5_needPlace 1 = .ok (.ifCond .lt 23, 3) := by decide +kernel
theorem dX5_needPlace_4 : decode cX5_needPlace 4 = .ok (.iload_n 0, 1) := by decide +kernel
theorem dX5_needPlace_5 : decode cX5_needPlace 5 = .ok (.bipush 60, 2) := by decide +kernel
theorem dX5_needPlace_7 : decode cX5_needPlace 7 = .ok (.if_icmp .gt 17, 3) := by decide +kernel
theorem dX5_needPlace_10 : decode cX5_needPlace 10 = .ok (.iload_n 1, 1) := by decide +kernel
theorem dX5_needPlace_11 : decode cX5_needPlace 11 = .ok (.ifCond .lt 13, 3) := by decide +kernel
theorem dX5_needPlace_14 : decode cX5_needPlace 14 = .ok (.iload_n 1, 1) := by decide +kernel
theorem dX5_needPlace_15 : decode cX5_needPlace 15 = .ok (.bipush 60, 2) := by decide +kernel
theorem dX5_needPlace_17 : decode cX5_needPlace 17 = .ok (.if_icmp .gt 7, 3) := by decide +kernel
theorem dX5_needPlace_20 : decode cX5_needPlace 20 = .ok (.iconst 1, 1) := by decide +kernel
theorem dX5_needPlace_21 : decode cX5_needPlace 21 = .ok (.goto 4, 3) := by decide +kernel
theorem dX5_needPlace_24 : decode cX5_needPlace 24 = .ok (.iconst 0, 1) := by decide +kernel
theorem dX5_needPlace_25 : decode cX5_needPlace 25 = .ok (.invokestatic 86, 3) := by decide +kernel
theorem dX5_needPlace_28 : decode cX5_needPlace 28 = .ok (.return_, 1) := by decide +kernel
theorem dX5_need_0 : decode cX5_need 0 = .ok (.iload_n 0, 1) := by decide +kernel
theorem dX5_need_1 : decode cX5_need 1 = .ok (.ifCond .ne 14, 3) := by decide +kernel
theorem dX5_need_4 : decode cX5_need 4 = .ok (.new 273, 3) := by decide +kernel
theorem dX5_need_7 : decode cX5_need 7 = .ok (.dup, 1) := by decide +kernel
theorem dX5_need_8 : decode cX5_need 8 = .ok (.ldc_w 275, 3) := by decide +kernel
theorem dX5_need_11 : decode cX5_need 11 = .ok (.invokespecial 277, 3) := by decide +kernel
theorem dX5_need_14 : decode cX5_need 14 = .ok (.athrow, 1) := by decide +kernel
theorem dX5_need_15 : decode cX5_need 15 = .ok (.return_, 1) := by decide +kernel
theorem dX5_isLevel_0 : decode cX5_isLevel 0 = .ok (.iload_n 0, 1) := by decide +kernel
theorem dX5_isLevel_1 : decode cX5_isLevel 1 = .ok (.ifCond .lt 12, 3) := by decide +kernel
theorem dX5_isLevel_4 : decode cX5_isLevel 4 = .ok (.iload_n 0, 1) := by decide +kernel
theorem dX5_isLevel_5 : decode cX5_isLevel 5 = .ok (.iconst 2, 1) := by decide +kernel
theorem dX5_isLevel_6 : decode cX5_isLevel 6 = .ok (.if_icmp .ge 7, 3) := by decide +kernel
theorem dX5_isLevel_9 : decode cX5_isLevel 9 = .ok (.iconst 1, 1) := by decide +kernel
theorem dX5_isLevel_10 : decode cX5_isLevel 10 = .ok (.goto 4, 3) := by decide +kernel
theorem dX5_isLevel_13 : decode cX5_isLevel 13 = .ok (.iconst 0, 1) := by decide +kernel
theorem dX5_isLevel_14 : decode cX5_isLevel 14 = .ok (.ireturn, 1) := by decide +kernel
theorem dX5_isGear_0 : decode cX5_isGear 0 = .ok (.iload_n 0, 1) := by decide +kernel
theorem dX5_isGear_1 : decode cX5_isGear 1 = .ok (.ifCond .lt 13, 3) := by decide +kernel
theorem dX5_isGear_4 : decode cX5_isGear 4 = .ok (.iload_n 0, 1) := by decide +kernel
theorem dX5_isGear_5 : decode cX5_isGear 5 = .ok (.bipush 20, 2) := by decide +kernel
theorem dX5_isGear_7 : decode cX5_isGear 7 = .ok (.if_icmp .gt 7, 3) := by decide +kernel
theorem dX5_isGear_10 : decode cX5_isGear 10 = .ok (.iconst 1, 1) := by decide +kernel
theorem dX5_isGear_11 : decode cX5_isGear 11 = .ok (.goto 4, 3) := by decide +kernel
theorem dX5_isGear_14 : decode cX5_isGear 14 = .ok (.iconst 0, 1) := by decide +kernel
theorem dX5_isGear_15 : decode cX5_isGear 15 = .ok (.ireturn, 1) := by decide +kernel
theorem dX5_kindOfGear_0 : decode cX5_kindOfGear 0 = .ok (.iload_n 0, 1) := by decide +kernel
theorem dX5_kindOfGear_1 : decode cX5_kindOfGear 1 = .ok (.ifCond .ne 7, 3) := by decide +kernel
theorem dX5_kindOfGear_4 : decode cX5_kindOfGear 4 = .ok (.iconst 0, 1) := by decide +kernel
theorem dX5_kindOfGear_5 : decode cX5_kindOfGear 5 = .ok (.goto 4, 3) := by decide +kernel
theorem dX5_kindOfGear_8 : decode cX5_kindOfGear 8 = .ok (.iconst 1, 1) := by decide +kernel
theorem dX5_kindOfGear_9 : decode cX5_kindOfGear 9 = .ok (.ireturn, 1) := by decide +kernel
set_option maxRecDepth 20000 in
theorem ggX5_startTrial_X0_copyFrom : GoodIn wsX5_startTrial wsX0_copyFrom := goodIn_r _ [6, 7, 8, 9, 10, 11, 12, 13, 14, 15, 16, 17, 18, 19, 20, 28, 29, 30, 31, 32, 33, 34, 35, 36, 37] (by decide +kernel) (by decide +kernel)
set_option maxRecDepth 20000 in
theorem gX5_startTrial_X0_copyFrom_n278 : GoodIn wsX5_startTrial (wsX0_copyFrom) := ggX5_startTrial_X0_copyFrom
theorem dX5_startTrial_0 : decode cX5_startTrial 0 = .ok (.aload_n 0, 1) := by decide +kernel
theorem dX5_startTrial_1 : decode cX5_startTrial 1 = .ok (.getfield 23, 3) := by decide +kernel
theorem dX5_startTrial_4 : decode cX5_startTrial 4 = .ok (.aload_n 0, 1) := by decide +kernel
theorem dX5_startTrial_5 : decode cX5_startTrial 5 = .ok (.getfield 12, 3) := by decide +kernel
theorem dX5_startTrial_8 : decode cX5_startTrial 8 = .ok (.invokevirtual 278, 3) := by decide +kernel
theorem dX5_startTrial_11 : decode cX5_startTrial 11 = .ok (.return_, 1) := by decide +kernel
set_option maxRecDepth 20000 in
theorem ggX5_keepTrial_X1_save : GoodIn wsX5_keepTrial wsX1_save := goodIn_r _ [8, 9, 10, 11, 12, 13, 14, 15, 16, 17, 18, 19, 20, 21, 22, 23, 24, 25, 26, 27, 28, 29, 30, 31, 32, 33, 34, 35, 36, 37, 115, 116, 117, 118, 119, 120, 121, 122, 123, 124, 125, 126, 127] (by decide +kernel) (by decide +kernel)
set_option maxRecDepth 20000 in
theorem gX5_keepTrial_X1_save_n281 : GoodIn wsX5_keepTrial (wsX1_save) := ggX5_keepTrial_X1_save
set_option maxRecDepth 20000 in
theorem ggX5_keepTrial_X0_copyFrom : GoodIn wsX5_keepTrial wsX0_copyFrom := goodIn_r _ [33, 21, 34, 35, 36, 37, 22, 23, 24, 25, 26, 27, 28, 29, 30, 118, 119, 120, 121, 122, 123, 124, 125, 126, 127] (by decide +kernel) (by decide +kernel)
set_option maxRecDepth 20000 in
theorem gX5_keepTrial_X0_copyFrom_n278 : GoodIn wsX5_keepTrial (wsX0_copyFrom) := ggX5_keepTrial_X0_copyFrom
set_option maxRecDepth 20000 in
theorem ggX5_keepTrial_X4_solve : GoodIn wsX5_keepTrial wsX4_solve := goodIn_r _ [41, 42, 43, 44, 45, 46, 47, 48, 39, 49, 50, 51, 14, 52, 53, 54, 55, 56, 57, 58, 59, 60, 23, 24, 61, 62, 63, 64, 21, 22, 65, 66, 67, 68, 30, 69, 70, 71, 72, 73, 74, 75, 76, 77, 78, 79, 80, 81, 25, 82, 83, 84, 85, 86, 87, 88, 89, 90, 91, 92, 93, 94, 95, 96, 97, 98, 99, 100, 101, 102, 103, 104, 105, 106, 107, 128, 129, 130, 131, 132, 133, 134, 118, 119, 120, 121, 122, 123, 124, 125, 126, 127] (by decide +kernel) (by decide +kernel)
set_option maxRecDepth 20000 in
theorem gX5_keepTrial_X4_solve_n160 : GoodIn wsX5_keepTrial (wsX4_solve) := ggX5_keepTrial_X4_solve
theorem dX5_keepTrial_0 : decode cX5_keepTrial 0 = .ok (.aload_n 0, 1) := by decide +kernel
theorem dX5_keepTrial_1 : decode cX5_keepTrial 1 = .ok (.getfield 46, 3) := by decide +kernel
theorem dX5_keepTrial_4 : decode cX5_keepTrial 4 = .ok (.aload_n 0, 1) := by decide +kernel
theorem dX5_keepTrial_5 : decode cX5_keepTrial 5 = .ok (.getfield 12, 3) := by decide +kernel
theorem dX5_keepTrial_8 : decode cX5_keepTrial 8 = .ok (.invokevirtual 281, 3) := by decide +kernel
theorem dX5_keepTrial_11 : decode cX5_keepTrial 11 = .ok (.aload_n 0, 1) := by decide +kernel
theorem dX5_keepTrial_12 : decode cX5_keepTrial 12 = .ok (.getfield 12, 3) := by decide +kernel
theorem dX5_keepTrial_15 : decode cX5_keepTrial 15 = .ok (.aload_n 0, 1) := by decide +kernel
theorem dX5_keepTrial_16 : decode cX5_keepTrial 16 = .ok (.getfield 23, 3) := by decide +kernel
theorem dX5_keepTrial_19 : decode cX5_keepTrial 19 = .ok (.invokevirtual 278, 3) := by decide +kernel
theorem dX5_keepTrial_22 : decode cX5_keepTrial 22 = .ok (.aload_n 0, 1) := by decide +kernel
theorem dX5_keepTrial_23 : decode cX5_keepTrial 23 = .ok (.getfield 19, 3) := by decide +kernel
theorem dX5_keepTrial_26 : decode cX5_keepTrial 26 = .ok (.aload_n 0, 1) := by decide +kernel
theorem dX5_keepTrial_27 : decode cX5_keepTrial 27 = .ok (.getfield 12, 3) := by decide +kernel
theorem dX5_keepTrial_30 : decode cX5_keepTrial 30 = .ok (.invokevirtual 160, 3) := by decide +kernel
theorem dX5_keepTrial_33 : decode cX5_keepTrial 33 = .ok (.return_, 1) := by decide +kernel
set_option maxRecDepth 20000 in
theorem ggX5_putThing_X5_startTrial : GoodIn wsX5_putThing wsX5_startTrial := goodIn_r _ [9, 3, 4, 10, 11, 12, 13, 14, 15, 16, 17, 18, 19, 20, 21, 22, 23, 24, 25, 26, 27, 138, 139, 140, 141, 142, 143, 144, 145, 146, 147, 148, 149, 150, 151, 152, 153, 154] (by decide +kernel) (by decide +kernel)
set_option maxRecDepth 20000 in
theorem gX5_putThing_X5_startTrial : GoodIn wsX5_putThing (wsV RX5 54 RX5 yX5_startTrial wsX5_startTrial) := goodIn_app (goodIn_of _ (by decide +kernel)) ggX5_putThing_X5_startTrial
set_option maxRecDepth 20000 in
theorem ggX5_putThing_X0_tryPut : GoodIn wsX5_putThing wsX0_tryPut := goodIn_r _ [30, 20, 21, 31, 32, 33, 11, 34, 22, 35, 36, 37, 38, 39, 40, 41, 42, 43, 44, 45, 46, 47, 48, 49, 50, 51, 52, 53, 14, 19, 54, 55, 56, 57, 58, 59, 60, 61, 27, 62, 63, 64, 65, 145, 146, 147, 148, 149, 150, 151, 152, 153, 154] (by decide +kernel) (by decide +kernel)
set_option maxRecDepth 20000 in
theorem gX5_putThing_X0_tryPut_n284 : GoodIn wsX5_putThing (wsX0_tryPut) := ggX5_putThing_X0_tryPut
set_option maxRecDepth 20000 in
theorem ggX5_putThing_X5_keepTrial : GoodIn wsX5_putThing wsX5_keepTrial := goodIn_r _ [69, 70, 4, 3, 71, 72, 73, 74, 75, 76, 77, 78, 79, 80, 11, 81, 82, 83, 84, 85, 86, 14, 19, 20, 21, 22, 23, 24, 25, 26, 27, 10, 12, 13, 15, 16, 17, 18, 87, 88, 89, 90, 91, 92, 93, 94, 95, 96, 97, 98, 99, 100, 101, 102, 35, 36, 37, 54, 55, 56, 57, 50, 51, 52, 53, 58, 59, 60, 61, 62, 63, 64, 65, 103, 104, 105, 106, 107, 108, 32, 33, 34, 109, 110, 111, 112, 113, 114, 115, 116, 117, 118, 119, 120, 121, 122, 123, 124, 125, 126, 127, 128, 129, 130, 131, 132, 8, 133, 138, 139, 140, 141, 142, 143, 144, 155, 156, 157, 145, 146, 147, 148, 149, 150, 151, 152, 153, 154, 158, 159, 160, 161, 162, 163, 164] (by decide +kernel) (by decide +kernel)
set_option maxRecDepth 20000 in
theorem gX5_putThing_X5_keepTrial : GoodIn wsX5_putThing (wsV RX5 68 RX5 yX5_keepTrial wsX5_keepTrial) := goodIn_app (goodIn_of _ (by decide +kernel)) ggX5_putThing_X5_keepTrial
set_option maxRecDepth 20000 in
theorem ggX5_putThing_X0_meshesOnLevel : GoodIn wsX5_putThing wsX0_meshesOnLevel := goodIn_r _ [136, 22, 137, 100, 101, 11, 102, 35, 36, 37, 54, 55, 56, 57, 20, 21, 50, 51, 52, 53, 14, 19, 58, 59, 60, 61, 27, 62, 63, 64, 65, 145, 146, 147, 148, 149, 150, 151, 152, 153, 154] (by decide +kernel) (by decide +kernel)
set_option maxRecDepth 20000 in
theorem gX5_putThing_X0_meshesOnLevel_n209 : GoodIn wsX5_putThing (wsX0_meshesOnLevel) := ggX5_putThing_X0_meshesOnLevel
theorem dX5_putThing_0 : decode cX5_putThing 0 = .ok (.aload_n 0, 1) := by decide +kernel
theorem dX5_putThing_1 : decode cX5_putThing 1 = .ok (.invokevirtual 54, 3) := by decide +kernel
theorem dX5_putThing_4 : decode cX5_putThing 4 = .ok (.aload_n 0, 1) := by decide +kernel
theorem dX5_putThing_5 : decode cX5_putThing 5 = .ok (.getfield 23, 3) := by decide +kernel
theorem dX5_putThing_8 : decode cX5_putThing 8 = .ok (.iload_n 1, 1) := by decide +kernel
theorem dX5_putThing_9 : decode cX5_putThing 9 = .ok (.iload_n 2, 1) := by decide +kernel
theorem dX5_putThing_10 : decode cX5_putThing 10 = .ok (.iload_n 3, 1) := by decide +kernel
theorem dX5_putThing_11 : decode cX5_putThing 11 = .ok (.iload 4, 2) := by decide +kernel
theorem dX5_putThing_13 : decode cX5_putThing 13 = .ok (.invokevirtual 284, 3) := by decide +kernel
theorem dX5_putThing_16 : decode cX5_putThing 16 = .ok (.ifCond .ne 14, 3) := by decide +kernel
theorem dX5_putThing_19 : decode cX5_putThing 19 = .ok (.new 61, 3) := by decide +kernel
theorem dX5_putThing_22 : decode cX5_putThing 22 = .ok (.dup, 1) := by decide +kernel
theorem dX5_putThing_23 : decode cX5_putThing 23 = .ok (.ldc_w 288, 3) := by decide +kernel
theorem dX5_putThing_26 : decode cX5_putThing 26 = .ok (.invokespecial 65, 3) := by decide +kernel
theorem dX5_putThing_29 : decode cX5_putThing 29 = .ok (.athrow, 1) := by decide +kernel
theorem dX5_putThing_30 : decode cX5_putThing 30 = .ok (.aload_n 0, 1) := by decide +kernel
theorem dX5_putThing_31 : decode cX5_putThing 31 = .ok (.invokevirtual 68, 3) := by decide +kernel
theorem dX5_putThing_34 : decode cX5_putThing 34 = .ok (.aload_n 0, 1) := by decide +kernel
theorem dX5_putThing_35 : decode cX5_putThing 35 = .ok (.getfield 12, 3) := by decide +kernel
theorem dX5_putThing_38 : decode cX5_putThing 38 = .ok (.iload_n 1, 1) := by decide +kernel
theorem dX5_putThing_39 : decode cX5_putThing 39 = .ok (.iload_n 2, 1) := by decide +kernel
theorem dX5_putThing_40 : decode cX5_putThing 40 = .ok (.invokevirtual 209, 3) := by decide +kernel
theorem dX5_putThing_43 : decode cX5_putThing 43 = .ok (.ireturn, 1) := by decide +kernel
set_option maxRecDepth 20000 in
theorem ggX5_doOrder_X3_part : GoodIn wsX5_doOrder wsX3_part := goodIn_r _ [6, 7, 75, 76, 77, 78, 79, 80, 81] (by decide +kernel) (by decide +kernel)
set_option maxRecDepth 20000 in
theorem gX5_doOrder_X3_part_n294 : GoodIn wsX5_doOrder (wsX3_part) := ggX5_doOrder_X3_part
set_option maxRecDepth 20000 in
theorem ggX5_doOrder_X0_tryAdd : GoodIn wsX5_doOrder wsX0_tryAdd := goodIn_r _ [11, 12, 13, 14, 15, 16, 17, 9, 18, 19, 20, 21, 22, 23, 24, 25, 26, 27, 82, 83, 84, 85, 86, 87, 88, 89, 90, 91] (by decide +kernel) (by decide +kernel)
set_option maxRecDepth 20000 in
theorem gX5_doOrder_X0_tryAdd_n57 : GoodIn wsX5_doOrder (wsX0_tryAdd) := ggX5_doOrder_X0_tryAdd
set_option maxRecDepth 20000 in
theorem ggX5_doOrder_X5_kindOfGear : GoodIn wsX5_doOrder wsX5_kindOfGear := goodIn_r _ [31] (by decide +kernel) (by decide +kernel)
set_option maxRecDepth 20000 in
theorem gX5_doOrder_X5_kindOfGear : GoodIn wsX5_doOrder (va_wsS RX5 90 yX5_kindOfGear wsX5_kindOfGear) := goodIn_app (goodIn_of _ (by decide +kernel)) ggX5_doOrder_X5_kindOfGear
set_option maxRecDepth 20000 in
theorem ggX5_doOrder_X0_tryPut : GoodIn wsX5_doOrder wsX0_tryPut := goodIn_r _ [34, 23, 24, 35, 36, 37, 9, 38, 12, 25, 26, 27, 19, 20, 21, 22, 39, 40, 41, 42, 43, 44, 45, 46, 47, 48, 49, 50, 13, 14, 51, 52, 53, 54, 55, 56, 57, 58, 59, 60, 61, 62, 63, 82, 83, 84, 85, 86, 87, 88, 89, 90, 91] (by decide +kernel) (by decide +kernel)
set_option maxRecDepth 20000 in
theorem gX5_doOrder_X0_tryPut_n284 : GoodIn wsX5_doOrder (wsX0_tryPut) := ggX5_doOrder_X0_tryPut
set_option maxRecDepth 20000 in
theorem ggX5_doOrder_X0_tryDrive : GoodIn wsX5_doOrder wsX0_tryDrive := goodIn_r _ [66, 67, 35, 36, 37, 9, 38, 12, 82, 83, 84, 85, 86, 87, 88, 89, 90, 91] (by decide +kernel) (by decide +kernel)
set_option maxRecDepth 20000 in
theorem gX5_doOrder_X0_tryDrive_n297 : GoodIn wsX5_doOrder (wsX0_tryDrive) := ggX5_doOrder_X0_tryDrive
theorem dX5_doOrder_0 : decode cX5_doOrder 0 = .ok (.aload_n 0, 1) := by decide +kernel
theorem dX5_doOrder_1 : decode cX5_doOrder 1 = .ok (.getfield 39, 3) := by decide +kernel
theorem dX5_doOrder_4 : decode cX5_doOrder 4 = .ok (.getfield 290, 3) := by decide +kernel
theorem dX5_doOrder_7 : decode cX5_doOrder 7 = .ok (.iload_n 1, 1) := by decide +kernel
theorem dX5_doOrder_8 : decode cX5_doOrder 8 = .ok (.iaload, 1) := by decide +kernel
theorem dX5_doOrder_9 : decode cX5_doOrder 9 = .ok (.istore_n 2, 1) := by decide +kernel
theorem dX5_doOrder_10 : decode cX5_doOrder 10 = .ok (.aload_n 0, 1) := by decide +kernel
theorem dX5_doOrder_11 : decode cX5_doOrder 11 = .ok (.getfield 39, 3) := by decide +kernel
theorem dX5_doOrder_14 : decode cX5_doOrder 14 = .ok (.iload_n 1, 1) := by decide +kernel
theorem dX5_doOrder_15 : decode cX5_doOrder 15 = .ok (.iconst 0, 1) := by decide +kernel
theorem dX5_doOrder_16 : decode cX5_doOrder 16 = .ok (.invokevirtual 294, 3) := by decide +kernel
theorem dX5_doOrder_19 : decode cX5_doOrder 19 = .ok (.istore_n 3, 1) := by decide +kernel
theorem dX5_doOrder_20 : decode cX5_doOrder 20 = .ok (.aload_n 0, 1) := by decide +kernel
theorem dX5_doOrder_21 : decode cX5_doOrder 21 = .ok (.getfield 39, 3) := by decide +kernel
theorem dX5_doOrder_24 : decode cX5_doOrder 24 = .ok (.iload_n 1, 1) := by decide +kernel
theorem dX5_doOrder_25 : decode cX5_doOrder 25 = .ok (.iconst 1, 1) := by decide +kernel
theorem dX5_doOrder_26 : decode cX5_doOrder 26 = .ok (.invokevirtual 294, 3) := by decide +kernel
theorem dX5_doOrder_29 : decode cX5_doOrder 29 = .ok (.istore 4, 2) := by decide +kernel
theorem dX5_doOrder_31 : decode cX5_doOrder 31 = .ok (.aload_n 0, 1) := by decide +kernel
theorem dX5_doOrder_32 : decode cX5_doOrder 32 = .ok (.getfield 39, 3) := by decide +kernel
theorem dX5_doOrder_35 : decode cX5_doOrder 35 = .ok (.iload_n 1, 1) := by decide +kernel
theorem dX5_doOrder_36 : decode cX5_doOrder 36 = .ok (.iconst 2, 1) := by decide +kernel
theorem dX5_doOrder_37 : decode cX5_doOrder 37 = .ok (.invokevirtual 294, 3) := by decide +kernel
theorem dX5_doOrder_40 : decode cX5_doOrder 40 = .ok (.istore 5, 2) := by decide +kernel
theorem dX5_doOrder_42 : decode cX5_doOrder 42 = .ok (.iload_n 2, 1) := by decide +kernel
theorem dX5_doOrder_43 : decode cX5_doOrder 43 = .ok (.bipush 112, 2) := by decide +kernel
theorem dX5_doOrder_45 : decode cX5_doOrder 45 = .ok (.if_icmp .ne 14, 3) := by decide +kernel
theorem dX5_doOrder_48 : decode cX5_doOrder 48 = .ok (.aload_n 0, 1) := by decide +kernel
theorem dX5_doOrder_49 : decode cX5_doOrder 49 = .ok (.getfield 23, 3) := by decide +kernel
theorem dX5_doOrder_52 : decode cX5_doOrder 52 = .ok (.iload_n 3, 1) := by decide +kernel
theorem dX5_doOrder_53 : decode cX5_doOrder 53 = .ok (.iload 4, 2) := by decide +kernel
theorem dX5_doOrder_55 : decode cX5_doOrder 55 = .ok (.invokevirtual 57, 3) := by decide +kernel
theorem dX5_doOrder_58 : decode cX5_doOrder 58 = .ok (.ireturn, 1) := by decide +kernel
theorem dX5_doOrder_59 : decode cX5_doOrder 59 = .ok (.iload_n 2, 1) := by decide +kernel
theorem dX5_doOrder_60 : decode cX5_doOrder 60 = .ok (.bipush 103, 2) := by decide +kernel
theorem dX5_doOrder_62 : decode cX5_doOrder 62 = .ok (.if_icmp .ne 21, 3) := by decide +kernel
theorem dX5_doOrder_65 : decode cX5_doOrder 65 = .ok (.aload_n 0, 1) := by decide +kernel
theorem dX5_doOrder_66 : decode cX5_doOrder 66 = .ok (.getfield 23, 3) := by decide +kernel
theorem dX5_doOrder_69 : decode cX5_doOrder 69 = .ok (.iload_n 3, 1) := by decide +kernel
theorem dX5_doOrder_70 : decode cX5_doOrder 70 = .ok (.iload 4, 2) := by decide +kernel
theorem dX5_doOrder_72 : decode cX5_doOrder 72 = .ok (.iload 5, 2) := by decide +kernel
theorem dX5_doOrder_74 : decode cX5_doOrder 74 = .ok (.invokestatic 90, 3) := by decide +kernel
theorem dX5_doOrder_77 : decode cX5_doOrder 77 = .ok (.iload 5, 2) := by decide +kernel
theorem dX5_doOrder_79 : decode cX5_doOrder 79 = .ok (.invokevirtual 284, 3) := by decide +kernel
theorem dX5_doOrder_82 : decode cX5_doOrder 82 = .ok (.ireturn, 1) := by decide +kernel
theorem dX5_doOrder_83 : decode cX5_doOrder 83 = .ok (.iload_n 2, 1) := by decide +kernel
theorem dX5_doOrder_84 : decode cX5_doOrder 84 = .ok (.bipush 114, 2) := by decide +kernel
theorem dX5_doOrder_86 : decode cX5_doOrder 86 = .ok (.if_icmp .ne 17, 3) := by decide +kernel
theorem dX5_doOrder_89 : decode cX5_doOrder 89 = .ok (.aload_n 0, 1) := by decide +kernel
theorem dX5_doOrder_90 : decode cX5_doOrder 90 = .ok (.getfield 23, 3) := by decide +kernel
theorem dX5_doOrder_93 : decode cX5_doOrder 93 = .ok (.iload_n 3, 1) := by decide +kernel
theorem dX5_doOrder_94 : decode cX5_doOrder 94 = .ok (.iload 4, 2) := by decide +kernel
theorem dX5_doOrder_96 : decode cX5_doOrder 96 = .ok (.iconst 2, 1) := by decide +kernel
theorem dX5_doOrder_97 : decode cX5_doOrder 97 = .ok (.iload 5, 2) := by decide +kernel
theorem dX5_doOrder_99 : decode cX5_doOrder 99 = .ok (.invokevirtual 284, 3) := by decide +kernel
theorem dX5_doOrder_102 : decode cX5_doOrder 102 = .ok (.ireturn, 1) := by decide +kernel
theorem dX5_doOrder_103 : decode cX5_doOrder 103 = .ok (.aload_n 0, 1) := by decide +kernel
theorem dX5_doOrder_104 : decode cX5_doOrder 104 = .ok (.getfield 23, 3) := by decide +kernel
theorem dX5_doOrder_107 : decode cX5_doOrder 107 = .ok (.iload_n 3, 1) := by decide +kernel
theorem dX5_doOrder_108 : decode cX5_doOrder 108 = .ok (.invokevirtual 297, 3) := by decide +kernel
theorem dX5_doOrder_111 : decode cX5_doOrder 111 = .ok (.ireturn, 1) := by decide +kernel
set_option maxRecDepth 20000 in
theorem ggX5_pegProperty_X0_spot : GoodIn wsX5_pegProperty wsX0_spot := goodIn_r _ [5] (by decide +kernel) (by decide +kernel)
set_option maxRecDepth 20000 in
theorem gX5_pegProperty_X0_spot_n309 : GoodIn wsX5_pegProperty (wsX0_spot) := ggX5_pegProperty_X0_spot
set_option maxRecDepth 20000 in
theorem ggX5_pegProperty_X4_neighbours : GoodIn wsX5_pegProperty wsX4_neighbours := goodIn_r _ [9, 10, 11, 12, 7, 13, 14, 30, 31, 32, 33, 34, 35, 36, 37, 38, 39, 40, 41, 42, 43, 44, 45, 46] (by decide +kernel) (by decide +kernel)
set_option maxRecDepth 20000 in
theorem gX5_pegProperty_X4_neighbours_n104 : GoodIn wsX5_pegProperty (wsX4_neighbours) := ggX5_pegProperty_X4_neighbours
set_option maxRecDepth 20000 in
theorem ggX5_pegProperty_X4_direction : GoodIn wsX5_pegProperty wsX4_direction := goodIn_r _ [17, 18, 40, 41, 42, 43, 44, 45, 46] (by decide +kernel) (by decide +kernel)
set_option maxRecDepth 20000 in
theorem gX5_pegProperty_X4_direction_n315 : GoodIn wsX5_pegProperty (wsX4_direction) := ggX5_pegProperty_X4_direction
set_option maxRecDepth 20000 in
theorem ggX5_pegProperty_X5_toNumber : GoodIn wsX5_pegProperty wsX5_toNumber := goodIn_r _ [22] (by decide +kernel) (by decide +kernel)
set_option maxRecDepth 20000 in
theorem gX5_pegProperty_X5_toNumber : GoodIn wsX5_pegProperty (va_wsS RX5 124 yX5_toNumber wsX5_toNumber) := goodIn_app (goodIn_of _ (by decide +kernel)) ggX5_pegProperty_X5_toNumber
theorem dX5_pegProperty_0 : decode cX5_pegProperty 0 = .ok (.iload_n 2, 1) := by decide +kernel
theorem dX5_pegProperty_1 : decode cX5_pegProperty 1 = .ok (.tableswitch 145 0 7 #[47, 57, 67, 81, 95, 109, 123, 136], 47) := by decide +kernel
theorem dX5_pegProperty_48 : decode cX5_pegProperty 48 = .ok (.aload_n 0, 1) := by decide +kernel
theorem dX5_pegProperty_49 : decode cX5_pegProperty 49 = .ok (.getfield 12, 3) := by decide +kernel
theorem dX5_pegProperty_52 : decode cX5_pegProperty 52 = .ok (.getfield 300, 3) := by decide +kernel
theorem dX5_pegProperty_55 : decode cX5_pegProperty 55 = .ok (.iload_n 1, 1) := by decide +kernel
theorem dX5_pegProperty_56 : decode cX5_pegProperty 56 = .ok (.iaload, 1) := by decide +kernel
theorem dX5_pegProperty_57 : decode cX5_pegProperty 57 = .ok (.ireturn, 1) := by decide +kernel
theorem dX5_pegProperty_58 : decode cX5_pegProperty 58 = .ok (.aload_n 0, 1) := by decide +kernel
theorem dX5_pegProperty_59 : decode cX5_pegProperty 59 = .ok (.getfield 12, 3) := by decide +kernel
theorem dX5_pegProperty_62 : decode cX5_pegProperty 62 = .ok (.getfield 303, 3) := by decide +kernel
theorem dX5_pegProperty_65 : decode cX5_pegProperty 65 = .ok (.iload_n 1, 1) := by decide +kernel
theorem dX5_pegProperty_66 : decode cX5_pegProperty 66 = .ok (.iaload, 1) := by decide +kernel
theorem dX5_pegProperty_67 : decode cX5_pegProperty 67 = .ok (.ireturn, 1) := by decide +kernel
theorem dX5_pegProperty_68 : decode cX5_pegProperty 68 = .ok (.aload_n 0, 1) := by decide +kernel
theorem dX5_pegProperty_69 : decode cX5_pegProperty 69 = .ok (.getfield 12, 3) := by decide +kernel
theorem dX5_pegProperty_72 : decode cX5_pegProperty 72 = .ok (.getfield 306, 3) := by decide +kernel
theorem dX5_pegProperty_75 : decode cX5_pegProperty 75 = .ok (.iload_n 1, 1) := by decide +kernel
theorem dX5_pegProperty_76 : decode cX5_pegProperty 76 = .ok (.iconst 0, 1) := by decide +kernel
theorem dX5_pegProperty_77 : decode cX5_pegProperty 77 = .ok (.invokestatic 309, 3) := by decide +kernel
theorem dX5_pegProperty_80 : decode cX5_pegProperty 80 = .ok (.iaload, 1) := by decide +kernel
theorem dX5_pegProperty_81 : decode cX5_pegProperty 81 = .ok (.ireturn, 1) := by decide +kernel
theorem dX5_pegProperty_82 : decode cX5_pegProperty 82 = .ok (.aload_n 0, 1) := by decide +kernel
theorem dX5_pegProperty_83 : decode cX5_pegProperty 83 = .ok (.getfield 12, 3) := by decide +kernel
theorem dX5_pegProperty_86 : decode cX5_pegProperty 86 = .ok (.getfield 306, 3) := by decide +kernel
theorem dX5_pegProperty_89 : decode cX5_pegProperty 89 = .ok (.iload_n 1, 1) := by decide +kernel
theorem dX5_pegProperty_90 : decode cX5_pegProperty 90 = .ok (.iconst 1, 1) := by decide +kernel
theorem dX5_pegProperty_91 : decode cX5_pegProperty 91 = .ok (.invokestatic 309, 3) := by decide +kernel
theorem dX5_pegProperty_94 : decode cX5_pegProperty 94 = .ok (.iaload, 1) := by decide +kernel
theorem dX5_pegProperty_95 : decode cX5_pegProperty 95 = .ok (.ireturn, 1) := by decide +kernel
theorem dX5_pegProperty_96 : decode cX5_pegProperty 96 = .ok (.aload_n 0, 1) := by decide +kernel
theorem dX5_pegProperty_97 : decode cX5_pegProperty 97 = .ok (.getfield 12, 3) := by decide +kernel
theorem dX5_pegProperty_100 : decode cX5_pegProperty 100 = .ok (.getfield 312, 3) := by decide +kernel
theorem dX5_pegProperty_103 : decode cX5_pegProperty 103 = .ok (.iload_n 1, 1) := by decide +kernel
theorem dX5_pegProperty_104 : decode cX5_pegProperty 104 = .ok (.iconst 0, 1) := by decide +kernel
theorem dX5_pegProperty_105 : decode cX5_pegProperty 105 = .ok (.invokestatic 309, 3) := by decide +kernel
theorem dX5_pegProperty_108 : decode cX5_pegProperty 108 = .ok (.iaload, 1) := by decide +kernel
theorem dX5_pegProperty_109 : decode cX5_pegProperty 109 = .ok (.ireturn, 1) := by decide +kernel
theorem dX5_pegProperty_110 : decode cX5_pegProperty 110 = .ok (.aload_n 0, 1) := by decide +kernel
theorem dX5_pegProperty_111 : decode cX5_pegProperty 111 = .ok (.getfield 12, 3) := by decide +kernel
theorem dX5_pegProperty_114 : decode cX5_pegProperty 114 = .ok (.getfield 312, 3) := by decide +kernel
theorem dX5_pegProperty_117 : decode cX5_pegProperty 117 = .ok (.iload_n 1, 1) := by decide +kernel
theorem dX5_pegProperty_118 : decode cX5_pegProperty 118 = .ok (.iconst 1, 1) := by decide +kernel
theorem dX5_pegProperty_119 : decode cX5_pegProperty 119 = .ok (.invokestatic 309, 3) := by decide +kernel
theorem dX5_pegProperty_122 : decode cX5_pegProperty 122 = .ok (.iaload, 1) := by decide +kernel
theorem dX5_pegProperty_123 : decode cX5_pegProperty 123 = .ok (.ireturn, 1) := by decide +kernel
theorem dX5_pegProperty_124 : decode cX5_pegProperty 124 = .ok (.aload_n 0, 1) := by decide +kernel
theorem dX5_pegProperty_125 : decode cX5_pegProperty 125 = .ok (.getfield 19, 3) := by decide +kernel
theorem dX5_pegProperty_128 : decode cX5_pegProperty 128 = .ok (.aload_n 0, 1) := by decide +kernel
theorem dX5_pegProperty_129 : decode cX5_pegProperty 129 = .ok (.getfield 12, 3) := by decide +kernel
theorem dX5_pegProperty_132 : decode cX5_pegProperty 132 = .ok (.iload_n 1, 1) := by decide +kernel
theorem dX5_pegProperty_133 : decode cX5_pegProperty 133 = .ok (.invokevirtual 104, 3) := by decide +kernel
theorem dX5_pegProperty_136 : decode cX5_pegProperty 136 = .ok (.ireturn, 1) := by decide +kernel
theorem dX5_pegProperty_137 : decode cX5_pegProperty 137 = .ok (.aload_n 0, 1) := by decide +kernel
theorem dX5_pegProperty_138 : decode cX5_pegProperty 138 = .ok (.getfield 19, 3) := by decide +kernel
theorem dX5_pegProperty_141 : decode cX5_pegProperty 141 = .ok (.iload_n 1, 1) := by decide +kernel
theorem dX5_pegProperty_142 : decode cX5_pegProperty 142 = .ok (.invokevirtual 315, 3) := by decide +kernel
theorem dX5_pegProperty_145 : decode cX5_pegProperty 145 = .ok (.ireturn, 1) := by decide +kernel
theorem dX5_pegProperty_146 : decode cX5_pegProperty 146 = .ok (.aload_n 0, 1) := by decide +kernel
theorem dX5_pegProperty_147 : decode cX5_pegProperty 147 = .ok (.getfield 19, 3) := by decide +kernel
theorem dX5_pegProperty_150 : decode cX5_pegProperty 150 = .ok (.getfield 318, 3) := by decide +kernel
theorem dX5_pegProperty_153 : decode cX5_pegProperty 153 = .ok (.iload_n 1, 1) := by decide +kernel
theorem dX5_pegProperty_154 : decode cX5_pegProperty 154 = .ok (.baload, 1) := by decide +kernel
theorem dX5_pegProperty_155 : decode cX5_pegProperty 155 = .ok (.invokestatic 124, 3) := by decide +kernel
theorem dX5_pegProperty_158 : decode cX5_pegProperty 158 = .ok (.ireturn, 1) := by decide +kernel
set_option maxRecDepth 20000 in
theorem ggX5_rowProperty_X5_toNumber : GoodIn wsX5_rowProperty wsX5_toNumber := goodIn_r _ [5] (by decide +kernel) (by decide +kernel)
set_option maxRecDepth 20000 in
theorem gX5_rowProperty_X5_toNumber : GoodIn wsX5_rowProperty (va_wsS RX5 124 yX5_toNumber wsX5_toNumber) := goodIn_app (goodIn_of _ (by decide +kernel)) ggX5_rowProperty_X5_toNumber
theorem dX5_rowProperty_0 : decode cX5_rowProperty 0 = .ok (.aload_n 0, 1) := by decide +kernel
theorem dX5_rowProperty_1 : decode cX5_rowProperty 1 = .ok (.getfield 32, 3) := by decide +kernel
theorem dX5_rowProperty_4 : decode cX5_rowProperty 4 = .ok (.getfield 322, 3) := by decide +kernel
theorem dX5_rowProperty_7 : decode cX5_rowProperty 7 = .ok (.ifCond .ne 5, 3) := by decide +kernel
theorem dX5_rowProperty_10 : decode cX5_rowProperty 10 = .ok (.iconst (-1), 1) := by decide +kernel
theorem dX5_rowProperty_11 : decode cX5_rowProperty 11 = .ok (.ireturn, 1) := by decide +kernel
theorem dX5_rowProperty_12 : decode cX5_rowProperty 12 = .ok (.iload_n 1, 1) := by decide +kernel
theorem dX5_rowProperty_13 : decode cX5_rowProperty 13 = .ok (.tableswitch 68 0 2 #[27, 35, 43], 27) := by decide +kernel
theorem dX5_rowProperty_40 : decode cX5_rowProperty 40 = .ok (.aload_n 0, 1) := by decide +kernel
theorem dX5_rowProperty_41 : decode cX5_rowProperty 41 = .ok (.getfield 32, 3) := by decide +kernel
theorem dX5_rowProperty_44 : decode cX5_rowProperty 44 = .ok (.getfield 322, 3) := by decide +kernel
theorem dX5_rowProperty_47 : decode cX5_rowProperty 47 = .ok (.ireturn, 1) := by decide +kernel
theorem dX5_rowProperty_48 : decode cX5_rowProperty 48 = .ok (.aload_n 0, 1) := by decide +kernel
theorem dX5_rowProperty_49 : decode cX5_rowProperty 49 = .ok (.getfield 32, 3) := by decide +kernel
theorem dX5_rowProperty_52 : decode cX5_rowProperty 52 = .ok (.getfield 323, 3) := by decide +kernel
theorem dX5_rowProperty_55 : decode cX5_rowProperty 55 = .ok (.ireturn, 1) := by decide +kernel
theorem dX5_rowProperty_56 : decode cX5_rowProperty 56 = .ok (.aload_n 0, 1) := by decide +kernel
theorem dX5_rowProperty_57 : decode cX5_rowProperty 57 = .ok (.getfield 32, 3) := by decide +kernel
theorem dX5_rowProperty_60 : decode cX5_rowProperty 60 = .ok (.getfield 322, 3) := by decide +kernel
theorem dX5_rowProperty_63 : decode cX5_rowProperty 63 = .ok (.iconst 1, 1) := by decide +kernel
theorem dX5_rowProperty_64 : decode cX5_rowProperty 64 = .ok (.if_icmp .le 15, 3) := by decide +kernel
theorem dX5_rowProperty_67 : decode cX5_rowProperty 67 = .ok (.aload_n 0, 1) := by decide +kernel
theorem dX5_rowProperty_68 : decode cX5_rowProperty 68 = .ok (.getfield 32, 3) := by decide +kernel
theorem dX5_rowProperty_71 : decode cX5_rowProperty 71 = .ok (.getfield 326, 3) := by decide +kernel
theorem dX5_rowProperty_74 : decode cX5_rowProperty 74 = .ok (.iconst 1, 1) := by decide +kernel
theorem dX5_rowProperty_75 : decode cX5_rowProperty 75 = .ok (.iaload, 1) := by decide +kernel
theorem dX5_rowProperty_76 : decode cX5_rowProperty 76 = .ok (.goto 4, 3) := by decide +kernel
theorem dX5_rowProperty_79 : decode cX5_rowProperty 79 = .ok (.iconst (-1), 1) := by decide +kernel
theorem dX5_rowProperty_80 : decode cX5_rowProperty 80 = .ok (.ireturn, 1) := by decide +kernel
theorem dX5_rowProperty_81 : decode cX5_rowProperty 81 = .ok (.aload_n 0, 1) := by decide +kernel
theorem dX5_rowProperty_82 : decode cX5_rowProperty 82 = .ok (.getfield 32, 3) := by decide +kernel
theorem dX5_rowProperty_85 : decode cX5_rowProperty 85 = .ok (.getfield 188, 3) := by decide +kernel
theorem dX5_rowProperty_88 : decode cX5_rowProperty 88 = .ok (.lconst 0, 1) := by decide +kernel
theorem dX5_rowProperty_89 : decode cX5_rowProperty 89 = .ok (.lcmp, 1) := by decide +kernel
theorem dX5_rowProperty_90 : decode cX5_rowProperty 90 = .ok (.ifCond .ge 7, 3) := by decide +kernel
theorem dX5_rowProperty_93 : decode cX5_rowProperty 93 = .ok (.iconst 1, 1) := by decide +kernel
theorem dX5_rowProperty_94 : decode cX5_rowProperty 94 = .ok (.goto 4, 3) := by decide +kernel
theorem dX5_rowProperty_97 : decode cX5_rowProperty 97 = .ok (.iconst 0, 1) := by decide +kernel
theorem dX5_rowProperty_98 : decode cX5_rowProperty 98 = .ok (.invokestatic 124, 3) := by decide +kernel
theorem dX5_rowProperty_101 : decode cX5_rowProperty 101 = .ok (.ireturn, 1) := by decide +kernel
set_option maxRecDepth 20000 in
theorem ggX5_countOf_X0_things : GoodIn wsX5_countOf wsX0_things := goodIn_r _ [7, 8, 9, 10, 11, 5, 12, 72, 73, 74, 75, 76, 77, 78, 79, 80, 81] (by decide +kernel) (by decide +kernel)
set_option maxRecDepth 20000 in
theorem gX5_countOf_X0_things_n328 : GoodIn wsX5_countOf (wsX0_things) := ggX5_countOf_X0_things
set_option maxRecDepth 20000 in
theorem ggX5_countOf_X4_meshingPairs : GoodIn wsX5_countOf wsX4_meshingPairs := goodIn_r _ [16, 17, 18, 19, 14, 20, 21, 22, 23, 24, 25, 72, 73, 74, 75, 76, 77, 78, 79, 80, 81, 82, 83, 84, 85, 86, 87, 88] (by decide +kernel) (by decide +kernel)
set_option maxRecDepth 20000 in
theorem gX5_countOf_X4_meshingPairs_n331 : GoodIn wsX5_countOf (wsX4_meshingPairs) := ggX5_countOf_X4_meshingPairs
set_option maxRecDepth 20000 in
theorem ggX5_countOf_X5_toNumber : GoodIn wsX5_countOf wsX5_toNumber := goodIn_r _ [29] (by decide +kernel) (by decide +kernel)
set_option maxRecDepth 20000 in
theorem gX5_countOf_X5_toNumber : GoodIn wsX5_countOf (va_wsS RX5 124 yX5_toNumber wsX5_toNumber) := goodIn_app (goodIn_of _ (by decide +kernel)) ggX5_countOf_X5_toNumber
set_option maxRecDepth 20000 in
theorem ggX5_countOf_X4_reachesGoal : GoodIn wsX5_countOf wsX4_reachesGoal := goodIn_r _ [32, 33, 34, 35, 5, 36, 37, 8, 72, 73, 74, 75, 76, 77, 78, 79, 80, 81, 82, 83, 84, 85, 86, 87, 88] (by decide +kernel) (by decide +kernel)
set_option maxRecDepth 20000 in
theorem gX5_countOf_X4_reachesGoal_n120 : GoodIn wsX5_countOf (wsX4_reachesGoal) := ggX5_countOf_X4_reachesGoal
set_option maxRecDepth 20000 in
theorem ggX5_countOf_X0_overlaps : GoodIn wsX5_countOf wsX0_overlaps := goodIn_r _ [40, 8, 41, 42, 43, 5, 44, 9, 45, 10, 11, 12, 46, 47, 48, 49, 50, 51, 52, 53, 54, 55, 56, 57, 58, 59, 60, 61, 62, 63, 64, 72, 73, 74, 75, 76, 77, 78, 79, 80, 81] (by decide +kernel) (by decide +kernel)
set_option maxRecDepth 20000 in
theorem gX5_countOf_X0_overlaps_n337 : GoodIn wsX5_countOf (wsX0_overlaps) := ggX5_countOf_X0_overlaps
theorem dX5_countOf_0 : decode cX5_countOf 0 = .ok (.iload_n 1, 1) := by decide +kernel
theorem dX5_countOf_1 : decode cX5_countOf 1 = .ok (.tableswitch 151 0 9 #[55, 63, 72, 81, 93, 101, 109, 120, 128, 143], 55) := by decide +kernel
theorem dX5_countOf_56 : decode cX5_countOf 56 = .ok (.aload_n 0, 1) := by decide +kernel
theorem dX5_countOf_57 : decode cX5_countOf 57 = .ok (.getfield 12, 3) := by decide +kernel
theorem dX5_countOf_60 : decode cX5_countOf 60 = .ok (.getfield 71, 3) := by decide +kernel
theorem dX5_countOf_63 : decode cX5_countOf 63 = .ok (.ireturn, 1) := by decide +kernel
theorem dX5_countOf_64 : decode cX5_countOf 64 = .ok (.aload_n 0, 1) := by decide +kernel
theorem dX5_countOf_65 : decode cX5_countOf 65 = .ok (.getfield 12, 3) := by decide +kernel
theorem dX5_countOf_68 : decode cX5_countOf 68 = .ok (.iconst 1, 1) := by decide +kernel
theorem dX5_countOf_69 : decode cX5_countOf 69 = .ok (.invokevirtual 328, 3) := by decide +kernel
theorem dX5_countOf_72 : decode cX5_countOf 72 = .ok (.ireturn, 1) := by decide +kernel
theorem dX5_countOf_73 : decode cX5_countOf 73 = .ok (.aload_n 0, 1) := by decide +kernel
theorem dX5_countOf_74 : decode cX5_countOf 74 = .ok (.getfield 12, 3) := by decide +kernel
theorem dX5_countOf_77 : decode cX5_countOf 77 = .ok (.iconst 2, 1) := by decide +kernel
theorem dX5_countOf_78 : decode cX5_countOf 78 = .ok (.invokevirtual 328, 3) := by decide +kernel
theorem dX5_countOf_81 : decode cX5_countOf 81 = .ok (.ireturn, 1) := by decide +kernel
theorem dX5_countOf_82 : decode cX5_countOf 82 = .ok (.aload_n 0, 1) := by decide +kernel
theorem dX5_countOf_83 : decode cX5_countOf 83 = .ok (.getfield 19, 3) := by decide +kernel
theorem dX5_countOf_86 : decode cX5_countOf 86 = .ok (.aload_n 0, 1) := by decide +kernel
theorem dX5_countOf_87 : decode cX5_countOf 87 = .ok (.getfield 12, 3) := by decide +kernel
theorem dX5_countOf_90 : decode cX5_countOf 90 = .ok (.invokevirtual 331, 3) := by decide +kernel
theorem dX5_countOf_93 : decode cX5_countOf 93 = .ok (.ireturn, 1) := by decide +kernel
theorem dX5_countOf_94 : decode cX5_countOf 94 = .ok (.aload_n 0, 1) := by decide +kernel
theorem dX5_countOf_95 : decode cX5_countOf 95 = .ok (.getfield 12, 3) := by decide +kernel
theorem dX5_countOf_98 : decode cX5_countOf 98 = .ok (.getfield 113, 3) := by decide +kernel
theorem dX5_countOf_101 : decode cX5_countOf 101 = .ok (.ireturn, 1) := by decide +kernel
theorem dX5_countOf_102 : decode cX5_countOf 102 = .ok (.aload_n 0, 1) := by decide +kernel
theorem dX5_countOf_103 : decode cX5_countOf 103 = .ok (.getfield 19, 3) := by decide +kernel
theorem dX5_countOf_106 : decode cX5_countOf 106 = .ok (.getfield 215, 3) := by decide +kernel
theorem dX5_countOf_109 : decode cX5_countOf 109 = .ok (.ireturn, 1) := by decide +kernel
theorem dX5_countOf_110 : decode cX5_countOf 110 = .ok (.aload_n 0, 1) := by decide +kernel
theorem dX5_countOf_111 : decode cX5_countOf 111 = .ok (.getfield 19, 3) := by decide +kernel
theorem dX5_countOf_114 : decode cX5_countOf 114 = .ok (.getfield 212, 3) := by decide +kernel
theorem dX5_countOf_117 : decode cX5_countOf 117 = .ok (.invokestatic 124, 3) := by decide +kernel
theorem dX5_countOf_120 : decode cX5_countOf 120 = .ok (.ireturn, 1) := by decide +kernel
theorem dX5_countOf_121 : decode cX5_countOf 121 = .ok (.aload_n 0, 1) := by decide +kernel
theorem dX5_countOf_122 : decode cX5_countOf 122 = .ok (.getfield 12, 3) := by decide +kernel
theorem dX5_countOf_125 : decode cX5_countOf 125 = .ok (.getfield 334, 3) := by decide +kernel
theorem dX5_countOf_128 : decode cX5_countOf 128 = .ok (.ireturn, 1) := by decide +kernel
theorem dX5_countOf_129 : decode cX5_countOf 129 = .ok (.aload_n 0, 1) := by decide +kernel
theorem dX5_countOf_130 : decode cX5_countOf 130 = .ok (.getfield 19, 3) := by decide +kernel
theorem dX5_countOf_133 : decode cX5_countOf 133 = .ok (.aload_n 0, 1) := by decide +kernel
theorem dX5_countOf_134 : decode cX5_countOf 134 = .ok (.getfield 12, 3) := by decide +kernel
theorem dX5_countOf_137 : decode cX5_countOf 137 = .ok (.invokevirtual 120, 3) := by decide +kernel
theorem dX5_countOf_140 : decode cX5_countOf 140 = .ok (.invokestatic 124, 3) := by decide +kernel
theorem dX5_countOf_143 : decode cX5_countOf 143 = .ok (.ireturn, 1) := by decide +kernel
theorem dX5_countOf_144 : decode cX5_countOf 144 = .ok (.aload_n 0, 1) := by decide +kernel
theorem dX5_countOf_145 : decode cX5_countOf 145 = .ok (.getfield 12, 3) := by decide +kernel
theorem dX5_countOf_148 : decode cX5_countOf 148 = .ok (.invokevirtual 337, 3) := by decide +kernel
theorem dX5_countOf_151 : decode cX5_countOf 151 = .ok (.ireturn, 1) := by decide +kernel
theorem dX5_countOf_152 : decode cX5_countOf 152 = .ok (.aload_n 0, 1) := by decide +kernel
theorem dX5_countOf_153 : decode cX5_countOf 153 = .ok (.getfield 46, 3) := by decide +kernel
theorem dX5_countOf_156 : decode cX5_countOf 156 = .ok (.getfield 164, 3) := by decide +kernel
theorem dX5_countOf_159 : decode cX5_countOf 159 = .ok (.ireturn, 1) := by decide +kernel
set_option maxRecDepth 20000 in
theorem ggX5_findChange_X4_reachesGoal : GoodIn wsX5_findChange wsX4_reachesGoal := goodIn_r _ [6, 7, 8, 9, 10, 11, 12, 13, 127, 128, 129, 130, 131, 132, 133, 134, 135, 136, 137, 138, 139, 140, 141, 142, 143] (by decide +kernel) (by decide +kernel)
set_option maxRecDepth 20000 in
theorem gX5_findChange_X4_reachesGoal_n120 : GoodIn wsX5_findChange (wsX4_reachesGoal) := ggX5_findChange_X4_reachesGoal
set_option maxRecDepth 20000 in
theorem ggX5_findChange_X5_startTrial : GoodIn wsX5_findChange wsX5_startTrial := goodIn_r _ [18, 19, 1, 20, 10, 21, 22, 23, 24, 25, 26, 27, 28, 29, 30, 13, 31, 32, 33, 34, 35, 120, 121, 122, 123, 124, 125, 126, 127, 128, 129, 130, 131, 132, 133, 134, 135, 136] (by decide +kernel) (by decide +kernel)
set_option maxRecDepth 20000 in
theorem gX5_findChange_X5_startTrial : GoodIn wsX5_findChange (wsV RX5 54 RX5 yX5_startTrial wsX5_startTrial) := goodIn_app (goodIn_of _ (by decide +kernel)) ggX5_findChange_X5_startTrial
set_option maxRecDepth 20000 in
theorem ggX5_findChange_X5_changeReachesGoal : GoodIn wsX5_findChange wsX5_changeReachesGoal := goodIn_r _ [39, 19, 40, 1, 41, 42, 17, 43, 44, 45, 46, 47, 10, 48, 49, 29, 30, 50, 51, 52, 53, 54, 55, 13, 56, 57, 58, 59, 60, 61, 62, 63, 23, 28, 64, 65, 66, 67, 68, 69, 70, 71, 35, 72, 73, 74, 75, 76, 4, 77, 78, 79, 80, 81, 82, 83, 84, 85, 86, 87, 88, 89, 90, 91, 92, 93, 94, 7, 8, 9, 11, 12, 95, 96, 97, 98, 99, 100, 101, 102, 103, 104, 105, 106, 107, 108, 109, 110, 111, 112, 113, 114, 115, 116, 117, 118, 119, 3, 5, 6, 120, 121, 122, 123, 124, 125, 126, 127, 128, 129, 130, 131, 132, 133, 134, 135, 136, 137, 138, 139, 140, 141, 142, 143] (by decide +kernel) (by decide +kernel)
set_option maxRecDepth 20000 in
theorem gX5_findChange_X5_changeReachesGoal : GoodIn wsX5_findChange (wsV RX5 340 RX5 yX5_changeReachesGoal wsX5_changeReachesGoal) := goodIn_app (goodIn_of _ (by decide +kernel)) ggX5_findChange_X5_changeReachesGoal
theorem dX5_findChange_0 : decode cX5_findChange 0 = .ok (.aload_n 0, 1) := by decide +kernel
theorem dX5_findChange_1 : decode cX5_findChange 1 = .ok (.getfield 12, 3) := by decide +kernel
theorem dX5_findChange_4 : decode cX5_findChange 4 = .ok (.getfield 334, 3) := by decide +kernel
theorem dX5_findChange_7 : decode cX5_findChange 7 = .ok (.iconst (-1), 1) := by decide +kernel
theorem dX5_findChange_8 : decode cX5_findChange 8 = .ok (.if_icmp .eq 17, 3) := by decide +kernel
theorem dX5_findChange_11 : decode cX5_findChange 11 = .ok (.aload_n 0, 1) := by decide +kernel
theorem dX5_findChange_12 : decode cX5_findChange 12 = .ok (.getfield 19, 3) := by decide +kernel
theorem dX5_findChange_15 : decode cX5_findChange 15 = .ok (.aload_n 0, 1) := by decide +kernel
theorem dX5_findChange_16 : decode cX5_findChange 16 = .ok (.getfield 12, 3) := by decide +kernel
theorem dX5_findChange_19 : decode cX5_findChange 19 = .ok (.invokevirtual 120, 3) := by decide +kernel
theorem dX5_findChange_22 : decode cX5_findChange 22 = .ok (.ifCond .eq 5, 3) := by decide +kernel
theorem dX5_findChange_25 : decode cX5_findChange 25 = .ok (.iconst (-1), 1) := by decide +kernel
theorem dX5_findChange_26 : decode cX5_findChange 26 = .ok (.ireturn, 1) := by decide +kernel
theorem dX5_findChange_27 : decode cX5_findChange 27 = .ok (.aload_n 0, 1) := by decide +kernel
theorem dX5_findChange_28 : decode cX5_findChange 28 = .ok (.invokevirtual 54, 3) := by decide +kernel
theorem dX5_findChange_31 : decode cX5_findChange 31 = .ok (.aload_n 0, 1) := by decide +kernel
theorem dX5_findChange_32 : decode cX5_findChange 32 = .ok (.getfield 12, 3) := by decide +kernel
theorem dX5_findChange_35 : decode cX5_findChange 35 = .ok (.getfield 71, 3) := by decide +kernel
theorem dX5_findChange_38 : decode cX5_findChange 38 = .ok (.iconst 2, 1) := by decide +kernel
theorem dX5_findChange_39 : decode cX5_findChange 39 = .ok (.imul, 1) := by decide +kernel
theorem dX5_findChange_40 : decode cX5_findChange 40 = .ok (.bipush 21, 2) := by decide +kernel
theorem dX5_findChange_42 : decode cX5_findChange 42 = .ok (.imul, 1) := by decide +kernel
theorem dX5_findChange_43 : decode cX5_findChange 43 = .ok (.istore_n 1, 1) := by decide +kernel
theorem dX5_findChange_44 : decode cX5_findChange 44 = .ok (.iconst 0, 1) := by decide +kernel
theorem dX5_findChange_45 : decode cX5_findChange 45 = .ok (.istore_n 2, 1) := by decide +kernel
theorem dX5_findChange_46 : decode cX5_findChange 46 = .ok (.iload_n 2, 1) := by decide +kernel
theorem dX5_findChange_47 : decode cX5_findChange 47 = .ok (.iload_n 1, 1) := by decide +kernel
theorem dX5_findChange_48 : decode cX5_findChange 48 = .ok (.if_icmp .ge 19, 3) := by decide +kernel
theorem dX5_findChange_51 : decode cX5_findChange 51 = .ok (.aload_n 0, 1) := by decide +kernel
theorem dX5_findChange_52 : decode cX5_findChange 52 = .ok (.iload_n 2, 1) := by decide +kernel
theorem dX5_findChange_53 : decode cX5_findChange 53 = .ok (.invokevirtual 340, 3) := by decide +kernel
theorem dX5_findChange_56 : decode cX5_findChange 56 = .ok (.ifCond .eq 5, 3) := by decide +kernel
theorem dX5_findChange_59 : decode cX5_findChange 59 = .ok (.iload_n 2, 1) := by decide +kernel
theorem dX5_findChange_60 : decode cX5_findChange 60 = .ok (.ireturn, 1) := by decide +kernel
theorem dX5_findChange_61 : decode cX5_findChange 61 = .ok (.iinc 2 1, 3) := by decide +kernel
theorem dX5_findChange_64 : decode cX5_findChange 64 = .ok (.goto (-18), 3) := by decide +kernel
theorem dX5_findChange_67 : decode cX5_findChange 67 = .ok (.iconst (-1), 1) := by decide +kernel
theorem dX5_findChange_68 : decode cX5_findChange 68 = .ok (.ireturn, 1) := by decide +kernel
set_option maxRecDepth 20000 in
theorem ggX5_changeReachesGoal_X5_partOfChange : GoodIn wsX5_changeReachesGoal wsX5_partOfChange := goodIn_r _ [7] (by decide +kernel) (by decide +kernel)
set_option maxRecDepth 20000 in
theorem gX5_changeReachesGoal_X5_partOfChange : GoodIn wsX5_changeReachesGoal (va_wsS RX5 222 yX5_partOfChange wsX5_partOfChange) := goodIn_app (goodIn_of _ (by decide +kernel)) ggX5_changeReachesGoal_X5_partOfChange
set_option maxRecDepth 20000 in
theorem ggX5_changeReachesGoal_X5_kindOfGear : GoodIn wsX5_changeReachesGoal wsX5_kindOfGear := goodIn_r _ [10] (by decide +kernel) (by decide +kernel)
set_option maxRecDepth 20000 in
theorem gX5_changeReachesGoal_X5_kindOfGear : GoodIn wsX5_changeReachesGoal (va_wsS RX5 90 yX5_kindOfGear wsX5_kindOfGear) := goodIn_app (goodIn_of _ (by decide +kernel)) ggX5_changeReachesGoal_X5_kindOfGear
set_option maxRecDepth 20000 in
theorem ggX5_changeReachesGoal_X0_replace : GoodIn wsX5_changeReachesGoal wsX0_replace := goodIn_r _ [14, 15, 16, 17, 18, 12, 19, 107, 108, 109, 110, 111, 112, 113, 114, 115, 116] (by decide +kernel) (by decide +kernel)
set_option maxRecDepth 20000 in
theorem gX5_changeReachesGoal_X0_replace_n202 : GoodIn wsX5_changeReachesGoal (wsX0_replace) := ggX5_changeReachesGoal_X0_replace
set_option maxRecDepth 20000 in
theorem ggX5_changeReachesGoal_X0_fits : GoodIn wsX5_changeReachesGoal wsX0_fits := goodIn_r _ [22, 23, 24, 25, 26, 12, 27, 15, 16, 17, 18, 19, 28, 29, 30, 31, 32, 33, 34, 35, 36, 37, 38, 39, 40, 41, 42, 43, 44, 45, 46, 107, 108, 109, 110, 111, 112, 113, 114, 115, 116] (by decide +kernel) (by decide +kernel)
set_option maxRecDepth 20000 in
theorem gX5_changeReachesGoal_X0_fits_n206 : GoodIn wsX5_changeReachesGoal (wsX0_fits) := ggX5_changeReachesGoal_X0_fits
set_option maxRecDepth 20000 in
theorem ggX5_changeReachesGoal_X4_solve : GoodIn wsX5_changeReachesGoal wsX4_solve := goodIn_r _ [50, 51, 52, 53, 54, 55, 56, 57, 48, 58, 59, 60, 12, 61, 62, 17, 18, 19, 34, 35, 36, 37, 15, 16, 28, 29, 30, 31, 32, 33, 38, 39, 40, 41, 42, 43, 44, 45, 46, 63, 64, 65, 66, 67, 68, 69, 70, 71, 23, 72, 73, 74, 75, 76, 77, 78, 79, 80, 81, 82, 83, 84, 85, 86, 87, 88, 89, 90, 91, 92, 93, 94, 95, 6, 96, 117, 118, 119, 120, 121, 122, 123, 107, 108, 109, 110, 111, 112, 113, 114, 115, 116] (by decide +kernel) (by decide +kernel)
set_option maxRecDepth 20000 in
theorem gX5_changeReachesGoal_X4_solve_n160 : GoodIn wsX5_changeReachesGoal (wsX4_solve) := ggX5_changeReachesGoal_X4_solve
set_option maxRecDepth 20000 in
theorem ggX5_changeReachesGoal_X4_reachesGoal : GoodIn wsX5_changeReachesGoal wsX4_reachesGoal := goodIn_r _ [99, 67, 68, 69, 12, 70, 71, 23, 107, 108, 109, 110, 111, 112, 113, 114, 115, 116, 117, 118, 119, 120, 121, 122, 123] (by decide +kernel) (by decide +kernel)
set_option maxRecDepth 20000 in
theorem gX5_changeReachesGoal_X4_reachesGoal_n120 : GoodIn wsX5_changeReachesGoal (wsX4_reachesGoal) := ggX5_changeReachesGoal_X4_reachesGoal
set_option maxRecDepth 20000 in
theorem ggX5_changeReachesGoal_X0_spot : GoodIn wsX5_changeReachesGoal wsX0_spot := goodIn_r _ [19] (by decide +kernel) (by decide +kernel)
set_option maxRecDepth 20000 in
theorem gX5_changeReachesGoal_X0_spot_n309 : GoodIn wsX5_changeReachesGoal (wsX0_spot) := ggX5_changeReachesGoal_X0_spot
theorem dX5_changeReachesGoal_0 : decode cX5_changeReachesGoal 0 = .ok (.iload_n 1, 1) := by decide +kernel
theorem dX5_changeReachesGoal_1 : decode cX5_changeReachesGoal 1 = .ok (.iconst 0, 1) := by decide +kernel
theorem dX5_changeReachesGoal_2 : decode cX5_changeReachesGoal 2 = .ok (.invokestatic 222, 3) := by decide +kernel
theorem dX5_changeReachesGoal_5 : decode cX5_changeReachesGoal 5 = .ok (.istore_n 2, 1) := by decide +kernel
theorem dX5_changeReachesGoal_6 : decode cX5_changeReachesGoal 6 = .ok (.iload_n 1, 1) := by decide +kernel
theorem dX5_changeReachesGoal_7 : decode cX5_changeReachesGoal 7 = .ok (.iconst 1, 1) := by decide +kernel
theorem dX5_changeReachesGoal_8 : decode cX5_changeReachesGoal 8 = .ok (.invokestatic 222, 3) := by decide +kernel
theorem dX5_changeReachesGoal_11 : decode cX5_changeReachesGoal 11 = .ok (.istore_n 3, 1) := by decide +kernel
theorem dX5_changeReachesGoal_12 : decode cX5_changeReachesGoal 12 = .ok (.iload_n 1, 1) := by decide +kernel
theorem dX5_changeReachesGoal_13 : decode cX5_changeReachesGoal 13 = .ok (.iconst 2, 1) := by decide +kernel
theorem dX5_changeReachesGoal_14 : decode cX5_changeReachesGoal 14 = .ok (.invokestatic 222, 3) := by decide +kernel
theorem dX5_changeReachesGoal_17 : decode cX5_changeReachesGoal 17 = .ok (.istore 4, 2) := by decide +kernel
theorem dX5_changeReachesGoal_19 : decode cX5_changeReachesGoal 19 = .ok (.aload_n 0, 1) := by decide +kernel
theorem dX5_changeReachesGoal_20 : decode cX5_changeReachesGoal 20 = .ok (.getfield 23, 3) := by decide +kernel
theorem dX5_changeReachesGoal_23 : decode cX5_changeReachesGoal 23 = .ok (.iload_n 2, 1) := by decide +kernel
theorem dX5_changeReachesGoal_24 : decode cX5_changeReachesGoal 24 = .ok (.iload_n 3, 1) := by decide +kernel
theorem dX5_changeReachesGoal_25 : decode cX5_changeReachesGoal 25 = .ok (.iload 4, 2) := by decide +kernel
theorem dX5_changeReachesGoal_27 : decode cX5_changeReachesGoal 27 = .ok (.invokestatic 90, 3) := by decide +kernel
theorem dX5_changeReachesGoal_30 : decode cX5_changeReachesGoal 30 = .ok (.iload 4, 2) := by decide +kernel
theorem dX5_changeReachesGoal_32 : decode cX5_changeReachesGoal 32 = .ok (.invokevirtual 202, 3) := by decide +kernel
theorem dX5_changeReachesGoal_35 : decode cX5_changeReachesGoal 35 = .ok (.aload_n 0, 1) := by decide +kernel
theorem dX5_changeReachesGoal_36 : decode cX5_changeReachesGoal 36 = .ok (.getfield 23, 3) := by decide +kernel
theorem dX5_changeReachesGoal_39 : decode cX5_changeReachesGoal 39 = .ok (.iload_n 2, 1) := by decide +kernel
theorem dX5_changeReachesGoal_40 : decode cX5_changeReachesGoal 40 = .ok (.iload_n 3, 1) := by decide +kernel
theorem dX5_changeReachesGoal_41 : decode cX5_changeReachesGoal 41 = .ok (.invokevirtual 206, 3) := by decide +kernel
theorem dX5_changeReachesGoal_44 : decode cX5_changeReachesGoal 44 = .ok (.istore 5, 2) := by decide +kernel
theorem dX5_changeReachesGoal_46 : decode cX5_changeReachesGoal 46 = .ok (.iload 5, 2) := by decide +kernel
theorem dX5_changeReachesGoal_48 : decode cX5_changeReachesGoal 48 = .ok (.ifCond .eq 27, 3) := by decide +kernel
theorem dX5_changeReachesGoal_51 : decode cX5_changeReachesGoal 51 = .ok (.aload_n 0, 1) := by decide +kernel
theorem dX5_changeReachesGoal_52 : decode cX5_changeReachesGoal 52 = .ok (.getfield 26, 3) := by decide +kernel
theorem dX5_changeReachesGoal_55 : decode cX5_changeReachesGoal 55 = .ok (.aload_n 0, 1) := by decide +kernel
theorem dX5_changeReachesGoal_56 : decode cX5_changeReachesGoal 56 = .ok (.getfield 23, 3) := by decide +kernel
theorem dX5_changeReachesGoal_59 : decode cX5_changeReachesGoal 59 = .ok (.invokevirtual 160, 3) := by decide +kernel
theorem dX5_changeReachesGoal_62 : decode cX5_changeReachesGoal 62 = .ok (.aload_n 0, 1) := by decide +kernel
theorem dX5_changeReachesGoal_63 : decode cX5_changeReachesGoal 63 = .ok (.getfield 26, 3) := by decide +kernel
theorem dX5_changeReachesGoal_66 : decode cX5_changeReachesGoal 66 = .ok (.aload_n 0, 1) := by decide +kernel
theorem dX5_changeReachesGoal_67 : decode cX5_changeReachesGoal 67 = .ok (.getfield 23, 3) := by decide +kernel
theorem dX5_changeReachesGoal_70 : decode cX5_changeReachesGoal 70 = .ok (.invokevirtual 120, 3) := by decide +kernel
theorem dX5_changeReachesGoal_73 : decode cX5_changeReachesGoal 73 = .ok (.istore 5, 2) := by decide +kernel
theorem dX5_changeReachesGoal_75 : decode cX5_changeReachesGoal 75 = .ok (.iload_n 2, 1) := by decide +kernel
theorem dX5_changeReachesGoal_76 : decode cX5_changeReachesGoal 76 = .ok (.iload_n 3, 1) := by decide +kernel
theorem dX5_changeReachesGoal_77 : decode cX5_changeReachesGoal 77 = .ok (.invokestatic 309, 3) := by decide +kernel
theorem dX5_changeReachesGoal_80 : decode cX5_changeReachesGoal 80 = .ok (.istore 6, 2) := by decide +kernel
theorem dX5_changeReachesGoal_82 : decode cX5_changeReachesGoal 82 = .ok (.aload_n 0, 1) := by decide +kernel
theorem dX5_changeReachesGoal_83 : decode cX5_changeReachesGoal 83 = .ok (.getfield 23, 3) := by decide +kernel
theorem dX5_changeReachesGoal_86 : decode cX5_changeReachesGoal 86 = .ok (.iload_n 2, 1) := by decide +kernel
theorem dX5_changeReachesGoal_87 : decode cX5_changeReachesGoal 87 = .ok (.iload_n 3, 1) := by decide +kernel
theorem dX5_changeReachesGoal_88 : decode cX5_changeReachesGoal 88 = .ok (.aload_n 0, 1) := by decide +kernel
theorem dX5_changeReachesGoal_89 : decode cX5_changeReachesGoal 89 = .ok (.getfield 12, 3) := by decide +kernel
theorem dX5_changeReachesGoal_92 : decode cX5_changeReachesGoal 92 = .ok (.getfield 312, 3) := by decide +kernel
theorem dX5_changeReachesGoal_95 : decode cX5_changeReachesGoal 95 = .ok (.iload 6, 2) := by decide +kernel
theorem dX5_changeReachesGoal_97 : decode cX5_changeReachesGoal 97 = .ok (.iaload, 1) := by decide +kernel
theorem dX5_changeReachesGoal_98 : decode cX5_changeReachesGoal 98 = .ok (.aload_n 0, 1) := by decide +kernel
theorem dX5_changeReachesGoal_99 : decode cX5_changeReachesGoal 99 = .ok (.getfield 12, 3) := by decide +kernel
theorem dX5_changeReachesGoal_102 : decode cX5_changeReachesGoal 102 = .ok (.getfield 306, 3) := by decide +kernel
theorem dX5_changeReachesGoal_105 : decode cX5_changeReachesGoal 105 = .ok (.iload 6, 2) := by decide +kernel
theorem dX5_changeReachesGoal_107 : decode cX5_changeReachesGoal 107 = .ok (.iaload, 1) := by decide +kernel
theorem dX5_changeReachesGoal_108 : decode cX5_changeReachesGoal 108 = .ok (.invokevirtual 202, 3) := by decide +kernel
theorem dX5_changeReachesGoal_111 : decode cX5_changeReachesGoal 111 = .ok (.iload 5, 2) := by decide +kernel
theorem dX5_changeReachesGoal_113 : decode cX5_changeReachesGoal 113 = .ok (.ireturn, 1) := by decide +kernel
theorem dX5_partOfChange_0 : decode cX5_partOfChange 0 = .ok (.iload_n 0, 1) := by decide +kernel
theorem dX5_partOfChange_1 : decode cX5_partOfChange 1 = .ok (.iconst (-1), 1) := by decide +kernel
theorem dX5_partOfChange_2 : decode cX5_partOfChange 2 = .ok (.if_icmp .ne 5, 3) := by decide +kernel
theorem dX5_partOfChange_5 : decode cX5_partOfChange 5 = .ok (.iconst (-1), 1) := by decide +kernel
theorem dX5_partOfChange_6 : decode cX5_partOfChange 6 = .ok (.ireturn, 1) := by decide +kernel
theorem dX5_partOfChange_7 : decode cX5_partOfChange 7 = .ok (.iload_n 0, 1) := by decide +kernel
theorem dX5_partOfChange_8 : decode cX5_partOfChange 8 = .ok (.bipush 21, 2) := by decide +kernel
theorem dX5_partOfChange_10 : decode cX5_partOfChange 10 = .ok (.idiv, 1) := by decide +kernel
theorem dX5_partOfChange_11 : decode cX5_partOfChange 11 = .ok (.istore_n 2, 1) := by decide +kernel
theorem dX5_partOfChange_12 : decode cX5_partOfChange 12 = .ok (.iload_n 1, 1) := by decide +kernel
theorem dX5_partOfChange_13 : decode cX5_partOfChange 13 = .ok (.lookupswitch 35 #[(0, 27), (1, 31)], 27) := by decide +kernel
theorem dX5_partOfChange_40 : decode cX5_partOfChange 40 = .ok (.iload_n 2, 1) := by decide +kernel
theorem dX5_partOfChange_41 : decode cX5_partOfChange 41 = .ok (.iconst 2, 1) := by decide +kernel
theorem dX5_partOfChange_42 : decode cX5_partOfChange 42 = .ok (.idiv, 1) := by decide +kernel
theorem dX5_partOfChange_43 : decode cX5_partOfChange 43 = .ok (.ireturn, 1) := by decide +kernel
theorem dX5_partOfChange_44 : decode cX5_partOfChange 44 = .ok (.iload_n 2, 1) := by decide +kernel
theorem dX5_partOfChange_45 : decode cX5_partOfChange 45 = .ok (.iconst 2, 1) := by decide +kernel
theorem dX5_partOfChange_46 : decode cX5_partOfChange 46 = .ok (.irem, 1) := by decide +kernel
theorem dX5_partOfChange_47 : decode cX5_partOfChange 47 = .ok (.ireturn, 1) := by decide +kernel
theorem dX5_partOfChange_48 : decode cX5_partOfChange 48 = .ok (.iload_n 0, 1) := by decide +kernel
theorem dX5_partOfChange_49 : decode cX5_partOfChange 49 = .ok (.bipush 21, 2) := by decide +kernel
theorem dX5_partOfChange_51 : decode cX5_partOfChange 51 = .ok (.irem, 1) := by decide +kernel
theorem dX5_partOfChange_52 : decode cX5_partOfChange 52 = .ok (.ireturn, 1) := by decide +kernel
set_option maxRecDepth 20000 in
theorem ggX5_freesJam_X5_startTrial : GoodIn wsX5_freesJam wsX5_startTrial := goodIn_r _ [7, 1, 8, 9, 10, 11, 12, 13, 14, 15, 16, 17, 18, 19, 20, 21, 22, 23, 24, 25, 26, 99, 100, 101, 102, 103, 104, 105, 113, 114, 115, 116, 117, 118, 119, 120, 121, 122] (by decide +kernel) (by decide +kernel)
set_option maxRecDepth 20000 in
theorem gX5_freesJam_X5_startTrial : GoodIn wsX5_freesJam (wsV RX5 54 RX5 yX5_startTrial wsX5_startTrial) := goodIn_app (goodIn_of _ (by decide +kernel)) ggX5_freesJam_X5_startTrial
set_option maxRecDepth 20000 in
theorem ggX5_freesJam_X0_replace : GoodIn wsX5_freesJam wsX0_replace := goodIn_r _ [29, 19, 20, 30, 31, 10, 32, 113, 114, 115, 116, 117, 118, 119, 120, 121, 122] (by decide +kernel) (by decide +kernel)
set_option maxRecDepth 20000 in
theorem gX5_freesJam_X0_replace_n202 : GoodIn wsX5_freesJam (wsX0_replace) := ggX5_freesJam_X0_replace
set_option maxRecDepth 20000 in
theorem ggX5_freesJam_X4_solve : GoodIn wsX5_freesJam wsX4_solve := goodIn_r _ [36, 37, 38, 39, 40, 41, 42, 43, 34, 44, 45, 46, 10, 47, 48, 30, 31, 32, 49, 50, 51, 52, 19, 20, 53, 54, 55, 56, 13, 18, 57, 58, 59, 60, 26, 61, 62, 63, 64, 65, 66, 67, 68, 69, 70, 71, 72, 73, 21, 74, 75, 76, 77, 78, 79, 80, 81, 82, 83, 84, 85, 86, 87, 88, 89, 90, 91, 92, 93, 94, 95, 96, 97, 6, 98, 106, 107, 108, 109, 110, 111, 112, 113, 114, 115, 116, 117, 118, 119, 120, 121, 122] (by decide +kernel) (by decide +kernel)
set_option maxRecDepth 20000 in
theorem gX5_freesJam_X4_solve_n160 : GoodIn wsX5_freesJam (wsX4_solve) := ggX5_freesJam_X4_solve
theorem dX5_freesJam_0 : decode cX5_freesJam 0 = .ok (.aload_n 0, 1) := by decide +kernel
theorem dX5_freesJam_1 : decode cX5_freesJam 1 = .ok (.invokevirtual 54, 3) := by decide +kernel
theorem dX5_freesJam_4 : decode cX5_freesJam 4 = .ok (.iconst 0, 1) := by decide +kernel
theorem dX5_freesJam_5 : decode cX5_freesJam 5 = .ok (.istore_n 2, 1) := by decide +kernel
theorem dX5_freesJam_6 : decode cX5_freesJam 6 = .ok (.iload_n 2, 1) := by decide +kernel
theorem dX5_freesJam_7 : decode cX5_freesJam 7 = .ok (.iconst 2, 1) := by decide +kernel
theorem dX5_freesJam_8 : decode cX5_freesJam 8 = .ok (.if_icmp .ge 20, 3) := by decide +kernel
theorem dX5_freesJam_11 : decode cX5_freesJam 11 = .ok (.aload_n 0, 1) := by decide +kernel
theorem dX5_freesJam_12 : decode cX5_freesJam 12 = .ok (.getfield 23, 3) := by decide +kernel
theorem dX5_freesJam_15 : decode cX5_freesJam 15 = .ok (.iload_n 1, 1) := by decide +kernel
theorem dX5_freesJam_16 : decode cX5_freesJam 16 = .ok (.iload_n 2, 1) := by decide +kernel
theorem dX5_freesJam_17 : decode cX5_freesJam 17 = .ok (.iconst 0, 1) := by decide +kernel
theorem dX5_freesJam_18 : decode cX5_freesJam 18 = .ok (.iconst 0, 1) := by decide +kernel
theorem dX5_freesJam_19 : decode cX5_freesJam 19 = .ok (.invokevirtual 202, 3) := by decide +kernel
theorem dX5_freesJam_22 : decode cX5_freesJam 22 = .ok (.iinc 2 1, 3) := by decide +kernel
theorem dX5_freesJam_25 : decode cX5_freesJam 25 = .ok (.goto (-19), 3) := by decide +kernel
theorem dX5_freesJam_28 : decode cX5_freesJam 28 = .ok (.aload_n 0, 1) := by decide +kernel
theorem dX5_freesJam_29 : decode cX5_freesJam 29 = .ok (.getfield 26, 3) := by decide +kernel
theorem dX5_freesJam_32 : decode cX5_freesJam 32 = .ok (.aload_n 0, 1) := by decide +kernel
theorem dX5_freesJam_33 : decode cX5_freesJam 33 = .ok (.getfield 23, 3) := by decide +kernel
theorem dX5_freesJam_36 : decode cX5_freesJam 36 = .ok (.invokevirtual 160, 3) := by decide +kernel
theorem dX5_freesJam_39 : decode cX5_freesJam 39 = .ok (.aload_n 0, 1) := by decide +kernel
theorem dX5_freesJam_40 : decode cX5_freesJam 40 = .ok (.getfield 26, 3) := by decide +kernel
theorem dX5_freesJam_43 : decode cX5_freesJam 43 = .ok (.getfield 212, 3) := by decide +kernel
theorem dX5_freesJam_46 : decode cX5_freesJam 46 = .ok (.ifCond .ne 18, 3) := by decide +kernel
theorem dX5_freesJam_49 : decode cX5_freesJam 49 = .ok (.aload_n 0, 1) := by decide +kernel
theorem dX5_freesJam_50 : decode cX5_freesJam 50 = .ok (.getfield 26, 3) := by decide +kernel
theorem dX5_freesJam_53 : decode cX5_freesJam 53 = .ok (.getfield 215, 3) := by decide +kernel
theorem dX5_freesJam_56 : decode cX5_freesJam 56 = .ok (.iconst 1, 1) := by decide +kernel
theorem dX5_freesJam_57 : decode cX5_freesJam 57 = .ok (.if_icmp .le 7, 3) := by decide +kernel
theorem dX5_freesJam_60 : decode cX5_freesJam 60 = .ok (.iconst 1, 1) := by decide +kernel
theorem dX5_freesJam_61 : decode cX5_freesJam 61 = .ok (.goto 4, 3) := by decide +kernel
theorem dX5_freesJam_64 : decode cX5_freesJam 64 = .ok (.iconst 0, 1) := by decide +kernel
theorem dX5_freesJam_65 : decode cX5_freesJam 65 = .ok (.ireturn, 1) := by decide +kernel
theorem dX5_mix_0 : decode cX5_mix 0 = .ok (.ldc2_w 343, 3) := by decide +kernel
theorem dX5_mix_3 : decode cX5_mix 3 = .ok (.lload_n 0, 1) := by decide +kernel
theorem dX5_mix_4 : decode cX5_mix 4 = .ok (.lmul, 1) := by decide +kernel
theorem dX5_mix_5 : decode cX5_mix 5 = .ok (.lload_n 2, 1) := by decide +kernel
theorem dX5_mix_6 : decode cX5_mix 6 = .ok (.ladd, 1) := by decide +kernel
theorem dX5_mix_7 : decode cX5_mix 7 = .ok (.lreturn, 1) := by decide +kernel
set_option maxRecDepth 20000 in
theorem ggX5_mixPeg_X5_pegProperty : GoodIn wsX5_mixPeg wsX5_pegProperty := goodIn_r _ [6, 7, 1, 8, 9, 10, 11, 12, 13, 14, 15, 16, 17, 18, 19, 20, 21, 22, 23, 24, 25, 5, 26, 31, 32, 33, 34, 35, 36, 37, 45, 46, 47, 48, 49, 50, 51, 52, 53, 54, 38, 39, 40, 41, 42, 43, 44] (by decide +kernel) (by decide +kernel)
set_option maxRecDepth 20000 in
theorem gX5_mixPeg_X5_pegProperty : GoodIn wsX5_mixPeg (wsV RX5 167 RX5 yX5_pegProperty wsX5_pegProperty) := goodIn_app (goodIn_of _ (by decide +kernel)) ggX5_mixPeg_X5_pegProperty
set_option maxRecDepth 20000 in
theorem ggX5_mixPeg_X5_mix : GoodIn wsX5_mixPeg wsX5_mix := goodIn_r _ [29, 30] (by decide +kernel) (by decide +kernel)
set_option maxRecDepth 20000 in
theorem gX5_mixPeg_X5_mix : GoodIn wsX5_mixPeg (va_wsS RX5 234 yX5_mix wsX5_mix) := goodIn_app (goodIn_of _ (by decide +kernel)) ggX5_mixPeg_X5_mix
theorem dX5_mixPeg_0 : decode cX5_mixPeg 0 = .ok (.lload_n 1, 1) := by decide +kernel
theorem dX5_mixPeg_1 : decode cX5_mixPeg 1 = .ok (.lstore 4, 2) := by decide +kernel
theorem dX5_mixPeg_3 : decode cX5_mixPeg 3 = .ok (.iconst 0, 1) := by decide +kernel
theorem dX5_mixPeg_4 : decode cX5_mixPeg 4 = .ok (.istore 6, 2) := by decide +kernel
theorem dX5_mixPeg_6 : decode cX5_mixPeg 6 = .ok (.iload 6, 2) := by decide +kernel
theorem dX5_mixPeg_8 : decode cX5_mixPeg 8 = .ok (.bipush 8, 2) := by decide +kernel
theorem dX5_mixPeg_10 : decode cX5_mixPeg 10 = .ok (.if_icmp .gt 24, 3) := by decide +kernel
theorem dX5_mixPeg_13 : decode cX5_mixPeg 13 = .ok (.lload 4, 2) := by decide +kernel
theorem dX5_mixPeg_15 : decode cX5_mixPeg 15 = .ok (.aload_n 0, 1) := by decide +kernel
theorem dX5_mixPeg_16 : decode cX5_mixPeg 16 = .ok (.iload_n 3, 1) := by decide +kernel
theorem dX5_mixPeg_17 : decode cX5_mixPeg 17 = .ok (.iload 6, 2) := by decide +kernel
theorem dX5_mixPeg_19 : decode cX5_mixPeg 19 = .ok (.invokevirtual 167, 3) := by decide +kernel
theorem dX5_mixPeg_22 : decode cX5_mixPeg 22 = .ok (.i2l, 1) := by decide +kernel
theorem dX5_mixPeg_23 : decode cX5_mixPeg 23 = .ok (.invokestatic 234, 3) := by decide +kernel
theorem dX5_mixPeg_26 : decode cX5_mixPeg 26 = .ok (.lstore 4, 2) := by decide +kernel
theorem dX5_mixPeg_28 : decode cX5_mixPeg 28 = .ok (.iinc 6 1, 3) := by decide +kernel
theorem dX5_mixPeg_31 : decode cX5_mixPeg 31 = .ok (.goto (-25), 3) := by decide +kernel
theorem dX5_mixPeg_34 : decode cX5_mixPeg 34 = .ok (.lload 4, 2) := by decide +kernel
theorem dX5_mixPeg_36 : decode cX5_mixPeg 36 = .ok (.aload_n 0, 1) := by decide +kernel
theorem dX5_mixPeg_37 : decode cX5_mixPeg 37 = .ok (.getfield 19, 3) := by decide +kernel
theorem dX5_mixPeg_40 : decode cX5_mixPeg 40 = .ok (.getfield 171, 3) := by decide +kernel
theorem dX5_mixPeg_43 : decode cX5_mixPeg 43 = .ok (.iload_n 3, 1) := by decide +kernel
theorem dX5_mixPeg_44 : decode cX5_mixPeg 44 = .ok (.laload, 1) := by decide +kernel
theorem dX5_mixPeg_45 : decode cX5_mixPeg 45 = .ok (.invokestatic 234, 3) := by decide +kernel
theorem dX5_mixPeg_48 : decode cX5_mixPeg 48 = .ok (.lstore 4, 2) := by decide +kernel
theorem dX5_mixPeg_50 : decode cX5_mixPeg 50 = .ok (.lload 4, 2) := by decide +kernel
theorem dX5_mixPeg_52 : decode cX5_mixPeg 52 = .ok (.aload_n 0, 1) := by decide +kernel
theorem dX5_mixPeg_53 : decode cX5_mixPeg 53 = .ok (.getfield 19, 3) := by decide +kernel
theorem dX5_mixPeg_56 : decode cX5_mixPeg 56 = .ok (.getfield 175, 3) := by decide +kernel
theorem dX5_mixPeg_59 : decode cX5_mixPeg 59 = .ok (.iload_n 3, 1) := by decide +kernel
theorem dX5_mixPeg_60 : decode cX5_mixPeg 60 = .ok (.laload, 1) := by decide +kernel
theorem dX5_mixPeg_61 : decode cX5_mixPeg 61 = .ok (.invokestatic 234, 3) := by decide +kernel
theorem dX5_mixPeg_64 : decode cX5_mixPeg 64 = .ok (.lreturn, 1) := by decide +kernel
set_option maxRecDepth 20000 in
theorem ggX5_mixPair_X2_find : GoodIn wsX5_mixPair wsX2_find := goodIn_r _ [7, 8, 9, 10, 11, 12, 13, 14, 15, 16, 5, 17, 18, 19, 20, 21, 22, 23, 24, 25, 26, 27, 28, 29, 30, 31, 32, 33, 34, 35, 36, 37, 38, 39, 40, 41, 42, 43, 44, 45, 46, 47, 48, 49, 50, 69, 70, 71, 72, 73, 74, 75, 76, 77, 78, 79, 80, 81, 82, 83, 84, 85, 86, 87, 88, 89, 90, 91] (by decide +kernel) (by decide +kernel)
set_option maxRecDepth 20000 in
theorem gX5_mixPair_X2_find_n181 : GoodIn wsX5_mixPair (wsX2_find) := ggX5_mixPair_X2_find
set_option maxRecDepth 20000 in
theorem ggX5_mixPair_X4_levelsOf : GoodIn wsX5_mixPair wsX4_levelsOf := goodIn_r _ [25, 26, 85, 86, 87, 88, 89, 90, 91] (by decide +kernel) (by decide +kernel)
set_option maxRecDepth 20000 in
theorem gX5_mixPair_X4_levelsOf_n178 : GoodIn wsX5_mixPair (wsX4_levelsOf) := ggX5_mixPair_X4_levelsOf
set_option maxRecDepth 20000 in
theorem ggX5_mixPair_X5_mix : GoodIn wsX5_mixPair wsX5_mix := goodIn_r _ [53, 54] (by decide +kernel) (by decide +kernel)
set_option maxRecDepth 20000 in
theorem gX5_mixPair_X5_mix : GoodIn wsX5_mixPair (va_wsS RX5 234 yX5_mix wsX5_mix) := goodIn_app (goodIn_of _ (by decide +kernel)) ggX5_mixPair_X5_mix
set_option maxRecDepth 20000 in
theorem ggX5_mixPair_X5_rowProperty : GoodIn wsX5_mixPair wsX5_rowProperty := goodIn_r _ [58, 1, 59, 60, 49, 61, 62, 63, 64, 65, 66, 67, 68, 69, 70, 71, 72, 73, 74] (by decide +kernel) (by decide +kernel)
set_option maxRecDepth 20000 in
theorem gX5_mixPair_X5_rowProperty : GoodIn wsX5_mixPair (wsV RX5 185 RX5 yX5_rowProperty wsX5_rowProperty) := goodIn_app (goodIn_of _ (by decide +kernel)) ggX5_mixPair_X5_rowProperty
theorem dX5_mixPair_0 : decode cX5_mixPair 0 = .ok (.aload_n 0, 1) := by decide +kernel
theorem dX5_mixPair_1 : decode cX5_mixPair 1 = .ok (.getfield 32, 3) := by decide +kernel
theorem dX5_mixPair_4 : decode cX5_mixPair 4 = .ok (.aload_n 0, 1) := by decide +kernel
theorem dX5_mixPair_5 : decode cX5_mixPair 5 = .ok (.getfield 12, 3) := by decide +kernel
theorem dX5_mixPair_8 : decode cX5_mixPair 8 = .ok (.aload_n 0, 1) := by decide +kernel
theorem dX5_mixPair_9 : decode cX5_mixPair 9 = .ok (.getfield 19, 3) := by decide +kernel
theorem dX5_mixPair_12 : decode cX5_mixPair 12 = .ok (.iload_n 3, 1) := by decide +kernel
theorem dX5_mixPair_13 : decode cX5_mixPair 13 = .ok (.iload 4, 2) := by decide +kernel
theorem dX5_mixPair_15 : decode cX5_mixPair 15 = .ok (.invokevirtual 181, 3) := by decide +kernel
theorem dX5_mixPair_18 : decode cX5_mixPair 18 = .ok (.lload_n 1, 1) := by decide +kernel
theorem dX5_mixPair_19 : decode cX5_mixPair 19 = .ok (.aload_n 0, 1) := by decide +kernel
theorem dX5_mixPair_20 : decode cX5_mixPair 20 = .ok (.getfield 19, 3) := by decide +kernel
theorem dX5_mixPair_23 : decode cX5_mixPair 23 = .ok (.iload_n 3, 1) := by decide +kernel
theorem dX5_mixPair_24 : decode cX5_mixPair 24 = .ok (.iload 4, 2) := by decide +kernel
theorem dX5_mixPair_26 : decode cX5_mixPair 26 = .ok (.invokevirtual 178, 3) := by decide +kernel
theorem dX5_mixPair_29 : decode cX5_mixPair 29 = .ok (.i2l, 1) := by decide +kernel
theorem dX5_mixPair_30 : decode cX5_mixPair 30 = .ok (.invokestatic 234, 3) := by decide +kernel
theorem dX5_mixPair_33 : decode cX5_mixPair 33 = .ok (.lstore 5, 2) := by decide +kernel
theorem dX5_mixPair_35 : decode cX5_mixPair 35 = .ok (.iconst 0, 1) := by decide +kernel
theorem dX5_mixPair_36 : decode cX5_mixPair 36 = .ok (.istore 7, 2) := by decide +kernel
theorem dX5_mixPair_38 : decode cX5_mixPair 38 = .ok (.iload 7, 2) := by decide +kernel
theorem dX5_mixPair_40 : decode cX5_mixPair 40 = .ok (.iconst 3, 1) := by decide +kernel
theorem dX5_mixPair_41 : decode cX5_mixPair 41 = .ok (.if_icmp .gt 23, 3) := by decide +kernel
theorem dX5_mixPair_44 : decode cX5_mixPair 44 = .ok (.lload 5, 2) := by decide +kernel
theorem dX5_mixPair_46 : decode cX5_mixPair 46 = .ok (.aload_n 0, 1) := by decide +kernel
theorem dX5_mixPair_47 : decode cX5_mixPair 47 = .ok (.iload 7, 2) := by decide +kernel
theorem dX5_mixPair_49 : decode cX5_mixPair 49 = .ok (.invokevirtual 185, 3) := by decide +kernel
theorem dX5_mixPair_52 : decode cX5_mixPair 52 = .ok (.i2l, 1) := by decide +kernel
theorem dX5_mixPair_53 : decode cX5_mixPair 53 = .ok (.invokestatic 234, 3) := by decide +kernel
theorem dX5_mixPair_56 : decode cX5_mixPair 56 = .ok (.lstore 5, 2) := by decide +kernel
theorem dX5_mixPair_58 : decode cX5_mixPair 58 = .ok (.iinc 7 1, 3) := by decide +kernel
theorem dX5_mixPair_61 : decode cX5_mixPair 61 = .ok (.goto (-23), 3) := by decide +kernel
theorem dX5_mixPair_64 : decode cX5_mixPair 64 = .ok (.lload 5, 2) := by decide +kernel
theorem dX5_mixPair_66 : decode cX5_mixPair 66 = .ok (.aload_n 0, 1) := by decide +kernel
theorem dX5_mixPair_67 : decode cX5_mixPair 67 = .ok (.getfield 32, 3) := by decide +kernel
theorem dX5_mixPair_70 : decode cX5_mixPair 70 = .ok (.getfield 188, 3) := by decide +kernel
theorem dX5_mixPair_73 : decode cX5_mixPair 73 = .ok (.invokestatic 234, 3) := by decide +kernel
theorem dX5_mixPair_76 : decode cX5_mixPair 76 = .ok (.lstore 5, 2) := by decide +kernel
theorem dX5_mixPair_78 : decode cX5_mixPair 78 = .ok (.lload 5, 2) := by decide +kernel
theorem dX5_mixPair_80 : decode cX5_mixPair 80 = .ok (.aload_n 0, 1) := by decide +kernel
theorem dX5_mixPair_81 : decode cX5_mixPair 81 = .ok (.getfield 32, 3) := by decide +kernel
theorem dX5_mixPair_84 : decode cX5_mixPair 84 = .ok (.getfield 192, 3) := by decide +kernel
theorem dX5_mixPair_87 : decode cX5_mixPair 87 = .ok (.invokestatic 234, 3) := by decide +kernel
theorem dX5_mixPair_90 : decode cX5_mixPair 90 = .ok (.lreturn, 1) := by decide +kernel
theorem dX5_bitsOfShare_0 : decode cX5_bitsOfShare 0 = .ok (.dload_n 0, 1) := by decide +kernel
theorem dX5_bitsOfShare_1 : decode cX5_bitsOfShare 1 = .ok (.dconst 0, 1) := by decide +kernel
theorem dX5_bitsOfShare_2 : decode cX5_bitsOfShare 2 = .ok (.dcmp .g, 1) := by decide +kernel
theorem dX5_bitsOfShare_3 : decode cX5_bitsOfShare 3 = .ok (.ifCond .gt 5, 3) := by decide +kernel
theorem dX5_bitsOfShare_6 : decode cX5_bitsOfShare 6 = .ok (.lconst 0, 1) := by decide +kernel
theorem dX5_bitsOfShare_7 : decode cX5_bitsOfShare 7 = .ok (.lreturn, 1) := by decide +kernel
theorem dX5_bitsOfShare_8 : decode cX5_bitsOfShare 8 = .ok (.dload_n 0, 1) := by decide +kernel
theorem dX5_bitsOfShare_9 : decode cX5_bitsOfShare 9 = .ok (.dstore_n 2, 1) := by decide +kernel
theorem dX5_bitsOfShare_10 : decode cX5_bitsOfShare 10 = .ok (.ldc2_w 345, 3) := by decide +kernel
theorem dX5_bitsOfShare_13 : decode cX5_bitsOfShare 13 = .ok (.lstore 4, 2) := by decide +kernel
theorem dX5_bitsOfShare_15 : decode cX5_bitsOfShare 15 = .ok (.iconst 0, 1) := by decide +kernel
theorem dX5_bitsOfShare_16 : decode cX5_bitsOfShare 16 = .ok (.istore 6, 2) := by decide +kernel
theorem dX5_bitsOfShare_18 : decode cX5_bitsOfShare 18 = .ok (.iload 6, 2) := by decide +kernel
theorem dX5_bitsOfShare_20 : decode cX5_bitsOfShare 20 = .ok (.bipush 52, 2) := by decide +kernel
theorem dX5_bitsOfShare_22 : decode cX5_bitsOfShare 22 = .ok (.if_icmp .ge 27, 3) := by decide +kernel
theorem dX5_bitsOfShare_25 : decode cX5_bitsOfShare 25 = .ok (.dload_n 2, 1) := by decide +kernel
theorem dX5_bitsOfShare_26 : decode cX5_bitsOfShare 26 = .ok (.dconst 1, 1) := by decide +kernel
theorem dX5_bitsOfShare_27 : decode cX5_bitsOfShare 27 = .ok (.dcmp .g, 1) := by decide +kernel
theorem dX5_bitsOfShare_28 : decode cX5_bitsOfShare 28 = .ok (.ifCond .ge 21, 3) := by decide +kernel
theorem dX5_bitsOfShare_31 : decode cX5_bitsOfShare 31 = .ok (.dload_n 2, 1) := by decide +kernel
theorem dX5_bitsOfShare_32 : decode cX5_bitsOfShare 32 = .ok (.ldc2_w 347, 3) := by decide +kernel
theorem dX5_bitsOfShare_35 : decode cX5_bitsOfShare 35 = .ok (.dmul, 1) := by decide +kernel
theorem dX5_bitsOfShare_36 : decode cX5_bitsOfShare 36 = .ok (.dstore_n 2, 1) := by decide +kernel
theorem dX5_bitsOfShare_37 : decode cX5_bitsOfShare 37 = .ok (.lload 4, 2) := by decide +kernel
theorem dX5_bitsOfShare_39 : decode cX5_bitsOfShare 39 = .ok (.lconst 1, 1) := by decide +kernel
theorem dX5_bitsOfShare_40 : decode cX5_bitsOfShare 40 = .ok (.lsub, 1) := by decide +kernel
theorem dX5_bitsOfShare_41 : decode cX5_bitsOfShare 41 = .ok (.lstore 4, 2) := by decide +kernel
theorem dX5_bitsOfShare_43 : decode cX5_bitsOfShare 43 = .ok (.iinc 6 1, 3) := by decide +kernel
theorem dX5_bitsOfShare_46 : decode cX5_bitsOfShare 46 = .ok (.goto (-28), 3) := by decide +kernel
theorem dX5_bitsOfShare_49 : decode cX5_bitsOfShare 49 = .ok (.dload_n 2, 1) := by decide +kernel
theorem dX5_bitsOfShare_50 : decode cX5_bitsOfShare 50 = .ok (.ldc2_w 349, 3) := by decide +kernel
theorem dX5_bitsOfShare_53 : decode cX5_bitsOfShare 53 = .ok (.dmul, 1) := by decide +kernel
theorem dX5_bitsOfShare_54 : decode cX5_bitsOfShare 54 = .ok (.d2l, 1) := by decide +kernel
theorem dX5_bitsOfShare_55 : decode cX5_bitsOfShare 55 = .ok (.ldc2_w 351, 3) := by decide +kernel
theorem dX5_bitsOfShare_58 : decode cX5_bitsOfShare 58 = .ok (.lsub, 1) := by decide +kernel
theorem dX5_bitsOfShare_59 : decode cX5_bitsOfShare 59 = .ok (.lstore 6, 2) := by decide +kernel
theorem dX5_bitsOfShare_61 : decode cX5_bitsOfShare 61 = .ok (.lload 4, 2) := by decide +kernel
theorem dX5_bitsOfShare_63 : decode cX5_bitsOfShare 63 = .ok (.bipush 52, 2) := by decide +kernel
theorem dX5_bitsOfShare_65 : decode cX5_bitsOfShare 65 = .ok (.lshl, 1) := by decide +kernel
theorem dX5_bitsOfShare_66 : decode cX5_bitsOfShare 66 = .ok (.lload 6, 2) := by decide +kernel
theorem dX5_bitsOfShare_68 : decode cX5_bitsOfShare 68 = .ok (.ladd, 1) := by decide +kernel
theorem dX5_bitsOfShare_69 : decode cX5_bitsOfShare 69 = .ok (.lreturn, 1) := by decide +kernel
theorem dX5_toNumber_0 : decode cX5_toNumber 0 = .ok (.iload_n 0, 1) := by decide +kernel
theorem dX5_toNumber_1 : decode cX5_toNumber 1 = .ok (.ifCond .eq 7, 3) := by decide +kernel
theorem dX5_toNumber_4 : decode cX5_toNumber 4 = .ok (.iconst 1, 1) := by decide +kernel
theorem dX5_toNumber_5 : decode cX5_toNumber 5 = .ok (.goto 4, 3) := by decide +kernel
theorem dX5_toNumber_8 : decode cX5_toNumber 8 = .ok (.iconst 0, 1) := by decide +kernel
theorem dX5_toNumber_9 : decode cX5_toNumber 9 = .ok (.ireturn, 1) := by decide +kernel
theorem dX5_commonDivisor_0 : decode cX5_commonDivisor 0 = .ok (.lload_n 0, 1) := by decide +kernel
theorem dX5_commonDivisor_1 : decode cX5_commonDivisor 1 = .ok (.lconst 0, 1) := by decide +kernel
theorem dX5_commonDivisor_2 : decode cX5_commonDivisor 2 = .ok (.lcmp, 1) := by decide +kernel
theorem dX5_commonDivisor_3 : decode cX5_commonDivisor 3 = .ok (.ifCond .ge 8, 3) := by decide +kernel
theorem dX5_commonDivisor_6 : decode cX5_commonDivisor 6 = .ok (.lload_n 0, 1) := by decide +kernel
theorem dX5_commonDivisor_7 : decode cX5_commonDivisor 7 = .ok (.lneg, 1) := by decide +kernel
theorem dX5_commonDivisor_8 : decode cX5_commonDivisor 8 = .ok (.goto 4, 3) := by decide +kernel
theorem dX5_commonDivisor_11 : decode cX5_commonDivisor 11 = .ok (.lload_n 0, 1) := by decide +kernel
theorem dX5_commonDivisor_12 : decode cX5_commonDivisor 12 = .ok (.lstore 4, 2) := by decide +kernel
theorem dX5_commonDivisor_14 : decode cX5_commonDivisor 14 = .ok (.lload_n 2, 1) := by decide +kernel
theorem dX5_commonDivisor_15 : decode cX5_commonDivisor 15 = .ok (.lconst 0, 1) := by decide +kernel
theorem dX5_commonDivisor_16 : decode cX5_commonDivisor 16 = .ok (.lcmp, 1) := by decide +kernel
theorem dX5_commonDivisor_17 : decode cX5_commonDivisor 17 = .ok (.ifCond .ge 8, 3) := by decide +kernel
theorem dX5_commonDivisor_20 : decode cX5_commonDivisor 20 = .ok (.lload_n 2, 1) := by decide +kernel
theorem dX5_commonDivisor_21 : decode cX5_commonDivisor 21 = .ok (.lneg, 1) := by decide +kernel
theorem dX5_commonDivisor_22 : decode cX5_commonDivisor 22 = .ok (.goto 4, 3) := by decide +kernel
theorem dX5_commonDivisor_25 : decode cX5_commonDivisor 25 = .ok (.lload_n 2, 1) := by decide +kernel
theorem dX5_commonDivisor_26 : decode cX5_commonDivisor 26 = .ok (.lstore 6, 2) := by decide +kernel
theorem dX5_commonDivisor_28 : decode cX5_commonDivisor 28 = .ok (.iconst 0, 1) := by decide +kernel
theorem dX5_commonDivisor_29 : decode cX5_commonDivisor 29 = .ok (.istore 8, 2) := by decide +kernel
theorem dX5_commonDivisor_31 : decode cX5_commonDivisor 31 = .ok (.iload 8, 2) := by decide +kernel
theorem dX5_commonDivisor_33 : decode cX5_commonDivisor 33 = .ok (.sipush 200, 3) := by decide +kernel
theorem dX5_commonDivisor_36 : decode cX5_commonDivisor 36 = .ok (.if_icmp .ge 31, 3) := by decide +kernel
theorem dX5_commonDivisor_39 : decode cX5_commonDivisor 39 = .ok (.lload 6, 2) := by decide +kernel
theorem dX5_commonDivisor_41 : decode cX5_commonDivisor 41 = .ok (.lconst 0, 1) := by decide +kernel
theorem dX5_commonDivisor_42 : decode cX5_commonDivisor 42 = .ok (.lcmp, 1) := by decide +kernel
theorem dX5_commonDivisor_43 : decode cX5_commonDivisor 43 = .ok (.ifCond .eq 24, 3) := by decide +kernel
theorem dX5_commonDivisor_46 : decode cX5_commonDivisor 46 = .ok (.lload 4, 2) := by decide +kernel
theorem dX5_commonDivisor_48 : decode cX5_commonDivisor 48 = .ok (.lload 6, 2) := by decide +kernel
theorem dX5_commonDivisor_50 : decode cX5_commonDivisor 50 = .ok (.lrem, 1) := by decide +kernel
theorem dX5_commonDivisor_51 : decode cX5_commonDivisor 51 = .ok (.lstore 9, 2) := by decide +kernel
theorem dX5_commonDivisor_53 : decode cX5_commonDivisor 53 = .ok (.lload 6, 2) := by decide +kernel
theorem dX5_commonDivisor_55 : decode cX5_commonDivisor 55 = .ok (.lstore 4, 2) := by decide +kernel
theorem dX5_commonDivisor_57 : decode cX5_commonDivisor 57 = .ok (.lload 9, 2) := by decide +kernel
theorem dX5_commonDivisor_59 : decode cX5_commonDivisor 59 = .ok (.lstore 6, 2) := by decide +kernel
theorem dX5_commonDivisor_61 : decode cX5_commonDivisor 61 = .ok (.iinc 8 1, 3) := by decide +kernel
theorem dX5_commonDivisor_64 : decode cX5_commonDivisor 64 = .ok (.goto (-33), 3) := by decide +kernel
theorem dX5_commonDivisor_67 : decode cX5_commonDivisor 67 = .ok (.lload 4, 2) := by decide +kernel
theorem dX5_commonDivisor_69 : decode cX5_commonDivisor 69 = .ok (.lconst 0, 1) := by decide +kernel
theorem dX5_commonDivisor_70 : decode cX5_commonDivisor 70 = .ok (.lcmp, 1) := by decide +kernel
theorem dX5_commonDivisor_71 : decode cX5_commonDivisor 71 = .ok (.ifCond .le 8, 3) := by decide +kernel
theorem dX5_commonDivisor_74 : decode cX5_commonDivisor 74 = .ok (.lload 4, 2) := by decide +kernel
theorem dX5_commonDivisor_76 : decode cX5_commonDivisor 76 = .ok (.goto 4, 3) := by decide +kernel
theorem dX5_commonDivisor_79 : decode cX5_commonDivisor 79 = .ok (.lconst 1, 1) := by decide +kernel
theorem dX5_commonDivisor_80 : decode cX5_commonDivisor 80 = .ok (.lreturn, 1) := by decide +kernel
theorem dX6_init_0 : decode cX6_init 0 = .ok (.aload_n 0, 1) := by decide +kernel
theorem dX6_init_1 : decode cX6_init 1 = .ok (.invokespecial 1, 3) := by decide +kernel
theorem dX6_init_4 : decode cX6_init 4 = .ok (.aload_n 0, 1) := by decide +kernel
theorem dX6_init_5 : decode cX6_init 5 = .ok (.bipush 60, 2) := by decide +kernel
theorem dX6_init_7 : decode cX6_init 7 = .ok (.newarray .int, 2) := by decide +kernel
theorem dX6_init_9 : decode cX6_init 9 = .ok (.putfield 7, 3) := by decide +kernel
theorem dX6_init_12 : decode cX6_init 12 = .ok (.aload_n 0, 1) := by decide +kernel
theorem dX6_init_13 : decode cX6_init 13 = .ok (.bipush 60, 2) := by decide +kernel
theorem dX6_init_15 : decode cX6_init 15 = .ok (.newarray .int, 2) := by decide +kernel
theorem dX6_init_17 : decode cX6_init 17 = .ok (.putfield 13, 3) := by decide +kernel
theorem dX6_init_20 : decode cX6_init 20 = .ok (.aload_n 0, 1) := by decide +kernel
theorem dX6_init_21 : decode cX6_init 21 = .ok (.sipush 360, 3) := by decide +kernel
theorem dX6_init_24 : decode cX6_init 24 = .ok (.newarray .int, 2) := by decide +kernel
theorem dX6_init_26 : decode cX6_init 26 = .ok (.putfield 16, 3) := by decide +kernel
theorem dX6_init_29 : decode cX6_init 29 = .ok (.aload_n 0, 1) := by decide +kernel
theorem dX6_init_30 : decode cX6_init 30 = .ok (.bipush 60, 2) := by decide +kernel
theorem dX6_init_32 : decode cX6_init 32 = .ok (.newarray .int, 2) := by decide +kernel
theorem dX6_init_34 : decode cX6_init 34 = .ok (.putfield 19, 3) := by decide +kernel
theorem dX6_init_37 : decode cX6_init 37 = .ok (.aload_n 0, 1) := by decide +kernel
theorem dX6_init_38 : decode cX6_init 38 = .ok (.bipush 9, 2) := by decide +kernel
theorem dX6_init_40 : decode cX6_init 40 = .ok (.newarray .long, 2) := by decide +kernel
theorem dX6_init_42 : decode cX6_init 42 = .ok (.putfield 22, 3) := by decide +kernel
theorem dX6_init_45 : decode cX6_init 45 = .ok (.aload_n 0, 1) := by decide +kernel
theorem dX6_init_46 : decode cX6_init 46 = .ok (.bipush 9, 2) := by decide +kernel
theorem dX6_init_48 : decode cX6_init 48 = .ok (.newarray .long, 2) := by decide +kernel
theorem dX6_init_50 : decode cX6_init 50 = .ok (.putfield 26, 3) := by decide +kernel
theorem dX6_init_53 : decode cX6_init 53 = .ok (.aload_n 0, 1) := by decide +kernel
theorem dX6_init_54 : decode cX6_init 54 = .ok (.bipush 9, 2) := by decide +kernel
theorem dX6_init_56 : decode cX6_init 56 = .ok (.newarray .boolean, 2) := by decide +kernel
theorem dX6_init_58 : decode cX6_init 58 = .ok (.putfield 29, 3) := by decide +kernel
theorem dX6_init_61 : decode cX6_init 61 = .ok (.aload_n 0, 1) := by decide +kernel
theorem dX6_init_62 : decode cX6_init 62 = .ok (.iconst 4, 1) := by decide +kernel
theorem dX6_init_63 : decode cX6_init 63 = .ok (.newarray .int, 2) := by decide +kernel
theorem dX6_init_65 : decode cX6_init 65 = .ok (.putfield 33, 3) := by decide +kernel
theorem dX6_init_68 : decode cX6_init 68 = .ok (.aload_n 0, 1) := by decide +kernel
theorem dX6_init_69 : decode cX6_init 69 = .ok (.bipush 9, 2) := by decide +kernel
theorem dX6_init_71 : decode cX6_init 71 = .ok (.newarray .int, 2) := by decide +kernel
theorem dX6_init_73 : decode cX6_init 73 = .ok (.putfield 36, 3) := by decide +kernel
theorem dX6_init_76 : decode cX6_init 76 = .ok (.aload_n 0, 1) := by decide +kernel
theorem dX6_init_77 : decode cX6_init 77 = .ok (.bipush 9, 2) := by decide +kernel
theorem dX6_init_79 : decode cX6_init 79 = .ok (.newarray .int, 2) := by decide +kernel
theorem dX6_init_81 : decode cX6_init 81 = .ok (.putfield 39, 3) := by decide +kernel
theorem dX6_init_84 : decode cX6_init 84 = .ok (.aload_n 0, 1) := by decide +kernel
theorem dX6_init_85 : decode cX6_init 85 = .ok (.getfield 7, 3) := by decide +kernel
theorem dX6_init_88 : decode cX6_init 88 = .ok (.bipush 55, 2) := by decide +kernel
theorem dX6_init_90 : decode cX6_init 90 = .ok (.iconst (-1), 1) := by decide +kernel
theorem dX6_init_91 : decode cX6_init 91 = .ok (.iastore, 1) := by decide +kernel
theorem dX6_init_92 : decode cX6_init 92 = .ok (.aload_n 0, 1) := by decide +kernel
theorem dX6_init_93 : decode cX6_init 93 = .ok (.getfield 7, 3) := by decide +kernel
theorem dX6_init_96 : decode cX6_init 96 = .ok (.bipush 56, 2) := by decide +kernel
theorem dX6_init_98 : decode cX6_init 98 = .ok (.iconst (-1), 1) := by decide +kernel
theorem dX6_init_99 : decode cX6_init 99 = .ok (.iastore, 1) := by decide +kernel
theorem dX6_init_100 : decode cX6_init 100 = .ok (.aload_n 0, 1) := by decide +kernel
theorem dX6_init_101 : decode cX6_init 101 = .ok (.getfield 7, 3) := by decide +kernel
theorem dX6_init_104 : decode cX6_init 104 = .ok (.bipush 58, 2) := by decide +kernel
theorem dX6_init_106 : decode cX6_init 106 = .ok (.iconst 1, 1) := by decide +kernel
theorem dX6_init_107 : decode cX6_init 107 = .ok (.iastore, 1) := by decide +kernel
theorem dX6_init_108 : decode cX6_init 108 = .ok (.return_, 1) := by decide +kernel
theorem dX6_thrown_0 : decode cX6_thrown 0 = .ok (.aload_n 0, 1) := by decide +kernel
theorem dX6_thrown_1 : decode cX6_thrown 1 = .ok (.getfield 42, 3) := by decide +kernel
theorem dX6_thrown_4 : decode cX6_thrown 4 = .ok (.ireturn, 1) := by decide +kernel
theorem dX6_in_0 : decode cX6_in 0 = .ok (.iload_n 0, 1) := by decide +kernel
theorem dX6_in_1 : decode cX6_in 1 = .ok (.iload_n 1, 1) := by decide +kernel
theorem dX6_in_2 : decode cX6_in 2 = .ok (.if_icmp .lt 12, 3) := by decide +kernel
theorem dX6_in_5 : decode cX6_in 5 = .ok (.iload_n 0, 1) := by decide +kernel
theorem dX6_in_6 : decode cX6_in 6 = .ok (.iload_n 2, 1) := by decide +kernel
theorem dX6_in_7 : decode cX6_in 7 = .ok (.if_icmp .gt 7, 3) := by decide +kernel
theorem dX6_in_10 : decode cX6_in 10 = .ok (.iconst 1, 1) := by decide +kernel
theorem dX6_in_11 : decode cX6_in 11 = .ok (.goto 4, 3) := by decide +kernel
theorem dX6_in_14 : decode cX6_in 14 = .ok (.iconst 0, 1) := by decide +kernel
theorem dX6_in_15 : decode cX6_in 15 = .ok (.ireturn, 1) := by decide +kernel
theorem dX6_holds_0 : decode cX6_holds 0 = .ok (.aload_n 0, 1) := by decide +kernel
theorem dX6_holds_1 : decode cX6_holds 1 = .ok (.iload_n 1, 1) := by decide +kernel
theorem dX6_holds_2 : decode cX6_holds 2 = .ok (.putfield 42, 3) := by decide +kernel
theorem dX6_holds_5 : decode cX6_holds 5 = .ok (.iload_n 1, 1) := by decide +kernel
theorem dX6_holds_6 : decode cX6_holds 6 = .ok (.ifCond .ne 7, 3) := by decide +kernel
theorem dX6_holds_9 : decode cX6_holds 9 = .ok (.iconst 1, 1) := by decide +kernel
theorem dX6_holds_10 : decode cX6_holds 10 = .ok (.goto 4, 3) := by decide +kernel
theorem dX6_holds_13 : decode cX6_holds 13 = .ok (.iconst 0, 1) := by decide +kernel
theorem dX6_holds_14 : decode cX6_holds 14 = .ok (.ireturn, 1) := by decide +kernel
set_option maxRecDepth 20000 in
theorem ggX6_isPeg_X6_in : GoodIn wsX6_isPeg wsX6_in := goodIn_r _ [5] (by decide +kernel) (by decide +kernel)
set_option maxRecDepth 20000 in
theorem gX6_isPeg_X6_in : GoodIn wsX6_isPeg (va_wsS RX6 46 yX6_in wsX6_in) := goodIn_app (goodIn_of _ (by decide +kernel)) ggX6_isPeg_X6_in
theorem dX6_isPeg_0 : decode cX6_isPeg 0 = .ok (.iload_n 1, 1) := by decide +kernel
theorem dX6_isPeg_1 : decode cX6_isPeg 1 = .ok (.iconst 0, 1) := by decide +kernel
theorem dX6_isPeg_2 : decode cX6_isPeg 2 = .ok (.aload_n 0, 1) := by decide +kernel
theorem dX6_isPeg_3 : decode cX6_isPeg 3 = .ok (.getfield 7, 3) := by decide +kernel
theorem dX6_isPeg_6 : decode cX6_isPeg 6 = .ok (.iconst 0, 1) := by decide +kernel
theorem dX6_isPeg_7 : decode cX6_isPeg 7 = .ok (.iaload, 1) := by decide +kernel
theorem dX6_isPeg_8 : decode cX6_isPeg 8 = .ok (.iconst 1, 1) := by decide +kernel
theorem dX6_isPeg_9 : decode cX6_isPeg 9 = .ok (.isub, 1) := by decide +kernel
theorem dX6_isPeg_10 : decode cX6_isPeg 10 = .ok (.invokestatic 46, 3) := by decide +kernel
theorem dX6_isPeg_13 : decode cX6_isPeg 13 = .ok (.ireturn, 1) := by decide +kernel
theorem dX6_save_0 : decode cX6_save 0 = .ok (.aload_n 0, 1) := by decide +kernel
theorem dX6_save_1 : decode cX6_save 1 = .ok (.getfield 50, 3) := by decide +kernel
theorem dX6_save_4 : decode cX6_save 4 = .ok (.bipush 6, 2) := by decide +kernel
theorem dX6_save_6 : decode cX6_save 6 = .ok (.if_icmp .ne 43, 3) := by decide +kernel
theorem dX6_save_9 : decode cX6_save 9 = .ok (.iconst 0, 1) := by decide +kernel
theorem dX6_save_10 : decode cX6_save 10 = .ok (.istore_n 1, 1) := by decide +kernel
theorem dX6_save_11 : decode cX6_save 11 = .ok (.iload_n 1, 1) := by decide +kernel
theorem dX6_save_12 : decode cX6_save 12 = .ok (.sipush 300, 3) := by decide +kernel
theorem dX6_save_15 : decode cX6_save 15 = .ok (.if_icmp .ge 24, 3) := by decide +kernel
theorem dX6_save_18 : decode cX6_save 18 = .ok (.aload_n 0, 1) := by decide +kernel
theorem dX6_save_19 : decode cX6_save 19 = .ok (.getfield 16, 3) := by decide +kernel
theorem dX6_save_22 : decode cX6_save 22 = .ok (.iload_n 1, 1) := by decide +kernel
theorem dX6_save_23 : decode cX6_save 23 = .ok (.aload_n 0, 1) := by decide +kernel
theorem dX6_save_24 : decode cX6_save 24 = .ok (.getfield 16, 3) := by decide +kernel
theorem dX6_save_27 : decode cX6_save 27 = .ok (.bipush 60, 2) := by decide +kernel
theorem dX6_save_29 : decode cX6_save 29 = .ok (.iload_n 1, 1) := by decide +kernel
theorem dX6_save_30 : decode cX6_save 30 = .ok (.iadd, 1) := by decide +kernel
theorem dX6_save_31 : decode cX6_save 31 = .ok (.iaload, 1) := by decide +kernel
theorem dX6_save_32 : decode cX6_save 32 = .ok (.iastore, 1) := by decide +kernel
theorem dX6_save_33 : decode cX6_save 33 = .ok (.iinc 1 1, 3) := by decide +kernel
theorem dX6_save_36 : decode cX6_save 36 = .ok (.goto (-25), 3) := by decide +kernel
theorem dX6_save_39 : decode cX6_save 39 = .ok (.aload_n 0, 1) := by decide +kernel
theorem dX6_save_40 : decode cX6_save 40 = .ok (.dup, 1) := by decide +kernel
theorem dX6_save_41 : decode cX6_save 41 = .ok (.getfield 50, 3) := by decide +kernel
theorem dX6_save_44 : decode cX6_save 44 = .ok (.iconst 1, 1) := by decide +kernel
theorem dX6_save_45 : decode cX6_save 45 = .ok (.isub, 1) := by decide +kernel
theorem dX6_save_46 : decode cX6_save 46 = .ok (.putfield 50, 3) := by decide +kernel
theorem dX6_save_49 : decode cX6_save 49 = .ok (.iconst 0, 1) := by decide +kernel
theorem dX6_save_50 : decode cX6_save 50 = .ok (.istore_n 1, 1) := by decide +kernel
theorem dX6_save_51 : decode cX6_save 51 = .ok (.iload_n 1, 1) := by decide +kernel
theorem dX6_save_52 : decode cX6_save 52 = .ok (.bipush 60, 2) := by decide +kernel
theorem dX6_save_54 : decode cX6_save 54 = .ok (.if_icmp .ge 29, 3) := by decide +kernel
theorem dX6_save_57 : decode cX6_save 57 = .ok (.aload_n 0, 1) := by decide +kernel
theorem dX6_save_58 : decode cX6_save 58 = .ok (.getfield 16, 3) := by decide +kernel
theorem dX6_save_61 : decode cX6_save 61 = .ok (.bipush 60, 2) := by decide +kernel
theorem dX6_save_63 : decode cX6_save 63 = .ok (.aload_n 0, 1) := by decide +kernel
theorem dX6_save_64 : decode cX6_save 64 = .ok (.getfield 50, 3) := by decide +kernel
theorem dX6_save_67 : decode cX6_save 67 = .ok (.imul, 1) := by decide +kernel
theorem dX6_save_68 : decode cX6_save 68 = .ok (.iload_n 1, 1) := by decide +kernel
theorem dX6_save_69 : decode cX6_save 69 = .ok (.iadd, 1) := by decide +kernel
theorem dX6_save_70 : decode cX6_save 70 = .ok (.aload_n 0, 1) := by decide +kernel
theorem dX6_save_71 : decode cX6_save 71 = .ok (.getfield 7, 3) := by decide +kernel
theorem dX6_save_74 : decode cX6_save 74 = .ok (.iload_n 1, 1) := by decide +kernel
theorem dX6_save_75 : decode cX6_save 75 = .ok (.iaload, 1) := by decide +kernel
theorem dX6_save_76 : decode cX6_save 76 = .ok (.iastore, 1) := by decide +kernel
theorem dX6_save_77 : decode cX6_save 77 = .ok (.iinc 1 1, 3) := by decide +kernel
theorem dX6_save_80 : decode cX6_save 80 = .ok (.goto (-29), 3) := by decide +kernel
theorem dX6_save_83 : decode cX6_save 83 = .ok (.aload_n 0, 1) := by decide +kernel
theorem dX6_save_84 : decode cX6_save 84 = .ok (.dup, 1) := by decide +kernel
theorem dX6_save_85 : decode cX6_save 85 = .ok (.getfield 50, 3) := by decide +kernel
theorem dX6_save_88 : decode cX6_save 88 = .ok (.iconst 1, 1) := by decide +kernel
theorem dX6_save_89 : decode cX6_save 89 = .ok (.iadd, 1) := by decide +kernel
theorem dX6_save_90 : decode cX6_save 90 = .ok (.putfield 50, 3) := by decide +kernel
theorem dX6_save_93 : decode cX6_save 93 = .ok (.return_, 1) := by decide +kernel
theorem dX6_putAside_0 : decode cX6_putAside 0 = .ok (.iconst 0, 1) := by decide +kernel
theorem dX6_putAside_1 : decode cX6_putAside 1 = .ok (.istore_n 1, 1) := by decide +kernel
theorem dX6_putAside_2 : decode cX6_putAside 2 = .ok (.iload_n 1, 1) := by decide +kernel
theorem dX6_putAside_3 : decode cX6_putAside 3 = .ok (.bipush 60, 2) := by decide +kernel
theorem dX6_putAside_5 : decode cX6_putAside 5 = .ok (.if_icmp .ge 21, 3) := by decide +kernel
theorem dX6_putAside_8 : decode cX6_putAside 8 = .ok (.aload_n 0, 1) := by decide +kernel
theorem dX6_putAside_9 : decode cX6_putAside 9 = .ok (.getfield 13, 3) := by decide +kernel
theorem dX6_putAside_12 : decode cX6_putAside 12 = .ok (.iload_n 1, 1) := by decide +kernel
theorem dX6_putAside_13 : decode cX6_putAside 13 = .ok (.aload_n 0, 1) := by decide +kernel
theorem dX6_putAside_14 : decode cX6_putAside 14 = .ok (.getfield 7, 3) := by decide +kernel
theorem dX6_putAside_17 : decode cX6_putAside 17 = .ok (.iload_n 1, 1) := by decide +kernel
theorem dX6_putAside_18 : decode cX6_putAside 18 = .ok (.iaload, 1) := by decide +kernel
theorem dX6_putAside_19 : decode cX6_putAside 19 = .ok (.iastore, 1) := by decide +kernel
theorem dX6_putAside_20 : decode cX6_putAside 20 = .ok (.iinc 1 1, 3) := by decide +kernel
theorem dX6_putAside_23 : decode cX6_putAside 23 = .ok (.goto (-21), 3) := by decide +kernel
theorem dX6_putAside_26 : decode cX6_putAside 26 = .ok (.return_, 1) := by decide +kernel
theorem dX6_putBack_0 : decode cX6_putBack 0 = .ok (.iconst 0, 1) := by decide +kernel
theorem dX6_putBack_1 : decode cX6_putBack 1 = .ok (.istore_n 1, 1) := by decide +kernel
theorem dX6_putBack_2 : decode cX6_putBack 2 = .ok (.iload_n 1, 1) := by decide +kernel
theorem dX6_putBack_3 : decode cX6_putBack 3 = .ok (.bipush 60, 2) := by decide +kernel
theorem dX6_putBack_5 : decode cX6_putBack 5 = .ok (.if_icmp .ge 21, 3) := by decide +kernel
theorem dX6_putBack_8 : decode cX6_putBack 8 = .ok (.aload_n 0, 1) := by decide +kernel
theorem dX6_putBack_9 : decode cX6_putBack 9 = .ok (.getfield 7, 3) := by decide +kernel
theorem dX6_putBack_12 : decode cX6_putBack 12 = .ok (.iload_n 1, 1) := by decide +kernel
theorem dX6_putBack_13 : decode cX6_putBack 13 = .ok (.aload_n 0, 1) := by decide +kernel
theorem dX6_putBack_14 : decode cX6_putBack 14 = .ok (.getfield 13, 3) := by decide +kernel
theorem dX6_putBack_17 : decode cX6_putBack 17 = .ok (.iload_n 1, 1) := by decide +kernel
theorem dX6_putBack_18 : decode cX6_putBack 18 = .ok (.iaload, 1) := by decide +kernel
theorem dX6_putBack_19 : decode cX6_putBack 19 = .ok (.iastore, 1) := by decide +kernel
theorem dX6_putBack_20 : decode cX6_putBack 20 = .ok (.iinc 1 1, 3) := by decide +kernel
theorem dX6_putBack_23 : decode cX6_putBack 23 = .ok (.goto (-21), 3) := by decide +kernel
theorem dX6_putBack_26 : decode cX6_putBack 26 = .ok (.return_, 1) := by decide +kernel
theorem dX6_kind_0 : decode cX6_kind 0 = .ok (.aload_n 0, 1) := by decide +kernel
theorem dX6_kind_1 : decode cX6_kind 1 = .ok (.getfield 7, 3) := by decide +kernel
theorem dX6_kind_4 : decode cX6_kind 4 = .ok (.bipush 19, 2) := by decide +kernel
theorem dX6_kind_6 : decode cX6_kind 6 = .ok (.iconst 2, 1) := by decide +kernel
theorem dX6_kind_7 : decode cX6_kind 7 = .ok (.iload_n 1, 1) := by decide +kernel
theorem dX6_kind_8 : decode cX6_kind 8 = .ok (.imul, 1) := by decide +kernel
theorem dX6_kind_9 : decode cX6_kind 9 = .ok (.iadd, 1) := by decide +kernel
theorem dX6_kind_10 : decode cX6_kind 10 = .ok (.iload_n 2, 1) := by decide +kernel
theorem dX6_kind_11 : decode cX6_kind 11 = .ok (.iadd, 1) := by decide +kernel
theorem dX6_kind_12 : decode cX6_kind 12 = .ok (.iaload, 1) := by decide +kernel
theorem dX6_kind_13 : decode cX6_kind 13 = .ok (.ireturn, 1) := by decide +kernel
theorem dX6_teeth_0 : decode cX6_teeth 0 = .ok (.aload_n 0, 1) := by decide +kernel
theorem dX6_teeth_1 : decode cX6_teeth 1 = .ok (.getfield 7, 3) := by decide +kernel
theorem dX6_teeth_4 : decode cX6_teeth 4 = .ok (.bipush 37, 2) := by decide +kernel
theorem dX6_teeth_6 : decode cX6_teeth 6 = .ok (.iconst 2, 1) := by decide +kernel
theorem dX6_teeth_7 : decode cX6_teeth 7 = .ok (.iload_n 1, 1) := by decide +kernel
theorem dX6_teeth_8 : decode cX6_teeth 8 = .ok (.imul, 1) := by decide +kernel
theorem dX6_teeth_9 : decode cX6_teeth 9 = .ok (.iadd, 1) := by decide +kernel
theorem dX6_teeth_10 : decode cX6_teeth 10 = .ok (.iload_n 2, 1) := by decide +kernel
theorem dX6_teeth_11 : decode cX6_teeth 11 = .ok (.iadd, 1) := by decide +kernel
theorem dX6_teeth_12 : decode cX6_teeth 12 = .ok (.iaload, 1) := by decide +kernel
theorem dX6_teeth_13 : decode cX6_teeth 13 = .ok (.ireturn, 1) := by decide +kernel
theorem dX6_square_0 : decode cX6_square 0 = .ok (.aload_n 0, 1) := by decide +kernel
theorem dX6_square_1 : decode cX6_square 1 = .ok (.getfield 7, 3) := by decide +kernel
theorem dX6_square_4 : decode cX6_square 4 = .ok (.iconst 1, 1) := by decide +kernel
theorem dX6_square_5 : decode cX6_square 5 = .ok (.iload_n 1, 1) := by decide +kernel
theorem dX6_square_6 : decode cX6_square 6 = .ok (.iadd, 1) := by decide +kernel
theorem dX6_square_7 : decode cX6_square 7 = .ok (.iaload, 1) := by decide +kernel
theorem dX6_square_8 : decode cX6_square 8 = .ok (.aload_n 0, 1) := by decide +kernel
theorem dX6_square_9 : decode cX6_square 9 = .ok (.getfield 7, 3) := by decide +kernel
theorem dX6_square_12 : decode cX6_square 12 = .ok (.iconst 1, 1) := by decide +kernel
theorem dX6_square_13 : decode cX6_square 13 = .ok (.iload_n 2, 1) := by decide +kernel
theorem dX6_square_14 : decode cX6_square 14 = .ok (.iadd, 1) := by decide +kernel
theorem dX6_square_15 : decode cX6_square 15 = .ok (.iaload, 1) := by decide +kernel
theorem dX6_square_16 : decode cX6_square 16 = .ok (.isub, 1) := by decide +kernel
theorem dX6_square_17 : decode cX6_square 17 = .ok (.istore_n 3, 1) := by decide +kernel
theorem dX6_square_18 : decode cX6_square 18 = .ok (.aload_n 0, 1) := by decide +kernel
theorem dX6_square_19 : decode cX6_square 19 = .ok (.getfield 7, 3) := by decide +kernel
theorem dX6_square_22 : decode cX6_square 22 = .ok (.bipush 10, 2) := by decide +kernel
theorem dX6_square_24 : decode cX6_square 24 = .ok (.iload_n 1, 1) := by decide +kernel
theorem dX6_square_25 : decode cX6_square 25 = .ok (.iadd, 1) := by decide +kernel
theorem dX6_square_26 : decode cX6_square 26 = .ok (.iaload, 1) := by decide +kernel
theorem dX6_square_27 : decode cX6_square 27 = .ok (.aload_n 0, 1) := by decide +kernel
theorem dX6_square_28 : decode cX6_square 28 = .ok (.getfield 7, 3) := by decide +kernel
theorem dX6_square_31 : decode cX6_square 31 = .ok (.bipush 10, 2) := by decide +kernel
theorem dX6_square_33 : decode cX6_square 33 = .ok (.iload_n 2, 1) := by decide +kernel
theorem dX6_square_34 : decode cX6_square 34 = .ok (.iadd, 1) := by decide +kernel
theorem dX6_square_35 : decode cX6_square 35 = .ok (.iaload, 1) := by decide +kernel
theorem dX6_square_36 : decode cX6_square 36 = .ok (.isub, 1) := by decide +kernel
theorem dX6_square_37 : decode cX6_square 37 = .ok (.istore 4, 2) := by decide +kernel
theorem dX6_square_39 : decode cX6_square 39 = .ok (.iload_n 3, 1) := by decide +kernel
theorem dX6_square_40 : decode cX6_square 40 = .ok (.iload_n 3, 1) := by decide +kernel
theorem dX6_square_41 : decode cX6_square 41 = .ok (.imul, 1) := by decide +kernel
theorem dX6_square_42 : decode cX6_square 42 = .ok (.iload 4, 2) := by decide +kernel
theorem dX6_square_44 : decode cX6_square 44 = .ok (.iload 4, 2) := by decide +kernel
theorem dX6_square_46 : decode cX6_square 46 = .ok (.imul, 1) := by decide +kernel
theorem dX6_square_47 : decode cX6_square 47 = .ok (.iadd, 1) := by decide +kernel
theorem dX6_square_48 : decode cX6_square 48 = .ok (.ireturn, 1) := by decide +kernel
theorem dX6_less_0 : decode cX6_less 0 = .ok (.iload_n 0, 1) := by decide +kernel
theorem dX6_less_1 : decode cX6_less 1 = .ok (.iload_n 1, 1) := by decide +kernel
theorem dX6_less_2 : decode cX6_less 2 = .ok (.if_icmp .le 9, 3) := by decide +kernel
theorem dX6_less_5 : decode cX6_less 5 = .ok (.iload_n 0, 1) := by decide +kernel
theorem dX6_less_6 : decode cX6_less 6 = .ok (.iload_n 1, 1) := by decide +kernel
theorem dX6_less_7 : decode cX6_less 7 = .ok (.isub, 1) := by decide +kernel
theorem dX6_less_8 : decode cX6_less 8 = .ok (.goto 4, 3) := by decide +kernel
theorem dX6_less_11 : decode cX6_less 11 = .ok (.iconst 0, 1) := by decide +kernel
theorem dX6_less_12 : decode cX6_less 12 = .ok (.ireturn, 1) := by decide +kernel
set_option maxRecDepth 20000 in
theorem ggX6_touch_X6_kind : GoodIn wsX6_touch wsX6_kind := goodIn_r _ [6, 1, 18, 19, 20, 21, 22, 23, 24, 25, 26, 27, 28, 29, 30, 31, 32, 33, 34, 35, 36, 37, 38] (by decide +kernel) (by decide +kernel)
set_option maxRecDepth 20000 in
theorem gX6_touch_X6_kind : GoodIn wsX6_touch (wsV RX6 53 RX6 yX6_kind wsX6_kind) := goodIn_app (goodIn_of _ (by decide +kernel)) ggX6_touch_X6_kind
set_option maxRecDepth 20000 in
theorem ggX6_touch_X6_square : GoodIn wsX6_touch wsX6_square := goodIn_r _ [10, 1, 18, 19, 20, 21, 22, 23, 24, 25, 26, 27, 28, 29, 30, 31, 32, 33, 34, 35, 36, 37, 38] (by decide +kernel) (by decide +kernel)
set_option maxRecDepth 20000 in
theorem gX6_touch_X6_square : GoodIn wsX6_touch (wsV RX6 57 RX6 yX6_square wsX6_square) := goodIn_app (goodIn_of _ (by decide +kernel)) ggX6_touch_X6_square
set_option maxRecDepth 20000 in
theorem ggX6_touch_X6_teeth : GoodIn wsX6_touch wsX6_teeth := goodIn_r _ [14, 1, 18, 19, 20, 21, 22, 23, 24, 25, 26, 27, 28, 29, 30, 31, 32, 33, 34, 35, 36, 37, 38] (by decide +kernel) (by decide +kernel)
set_option maxRecDepth 20000 in
theorem gX6_touch_X6_teeth : GoodIn wsX6_touch (wsV RX6 60 RX6 yX6_teeth wsX6_teeth) := goodIn_app (goodIn_of _ (by decide +kernel)) ggX6_touch_X6_teeth
set_option maxRecDepth 20000 in
theorem ggX6_touch_X6_less : GoodIn wsX6_touch wsX6_less := goodIn_r _ [17] (by decide +kernel) (by decide +kernel)
set_option maxRecDepth 20000 in
theorem gX6_touch_X6_less : GoodIn wsX6_touch (va_wsS RX6 63 yX6_less wsX6_less) := goodIn_app (goodIn_of _ (by decide +kernel)) ggX6_touch_X6_less
theorem dX6_touch_0 : decode cX6_touch 0 = .ok (.aload_n 0, 1) := by decide +kernel
theorem dX6_touch_1 : decode cX6_touch 1 = .ok (.iload_n 1, 1) := by decide +kernel
theorem dX6_touch_2 : decode cX6_touch 2 = .ok (.iload_n 3, 1) := by decide +kernel
theorem dX6_touch_3 : decode cX6_touch 3 = .ok (.invokevirtual 53, 3) := by decide +kernel
theorem dX6_touch_6 : decode cX6_touch 6 = .ok (.istore 5, 2) := by decide +kernel
theorem dX6_touch_8 : decode cX6_touch 8 = .ok (.aload_n 0, 1) := by decide +kernel
theorem dX6_touch_9 : decode cX6_touch 9 = .ok (.iload_n 2, 1) := by decide +kernel
theorem dX6_touch_10 : decode cX6_touch 10 = .ok (.iload_n 3, 1) := by decide +kernel
theorem dX6_touch_11 : decode cX6_touch 11 = .ok (.invokevirtual 53, 3) := by decide +kernel
theorem dX6_touch_14 : decode cX6_touch 14 = .ok (.istore 6, 2) := by decide +kernel
theorem dX6_touch_16 : decode cX6_touch 16 = .ok (.iload_n 1, 1) := by decide +kernel
theorem dX6_touch_17 : decode cX6_touch 17 = .ok (.iload_n 2, 1) := by decide +kernel
theorem dX6_touch_18 : decode cX6_touch 18 = .ok (.if_icmp .eq 25, 3) := by decide +kernel
theorem dX6_touch_21 : decode cX6_touch 21 = .ok (.iload 5, 2) := by decide +kernel
theorem dX6_touch_23 : decode cX6_touch 23 = .ok (.ifCond .eq 20, 3) := by decide +kernel
theorem dX6_touch_26 : decode cX6_touch 26 = .ok (.iload 6, 2) := by decide +kernel
theorem dX6_touch_28 : decode cX6_touch 28 = .ok (.ifCond .eq 15, 3) := by decide +kernel
theorem dX6_touch_31 : decode cX6_touch 31 = .ok (.iload 5, 2) := by decide +kernel
theorem dX6_touch_33 : decode cX6_touch 33 = .ok (.iconst 2, 1) := by decide +kernel
theorem dX6_touch_34 : decode cX6_touch 34 = .ok (.if_icmp .ne 11, 3) := by decide +kernel
theorem dX6_touch_37 : decode cX6_touch 37 = .ok (.iload 6, 2) := by decide +kernel
theorem dX6_touch_39 : decode cX6_touch 39 = .ok (.iconst 2, 1) := by decide +kernel
theorem dX6_touch_40 : decode cX6_touch 40 = .ok (.if_icmp .ne 5, 3) := by decide +kernel
theorem dX6_touch_43 : decode cX6_touch 43 = .ok (.iconst 0, 1) := by decide +kernel
theorem dX6_touch_44 : decode cX6_touch 44 = .ok (.ireturn, 1) := by decide +kernel
theorem dX6_touch_45 : decode cX6_touch 45 = .ok (.aload_n 0, 1) := by decide +kernel
theorem dX6_touch_46 : decode cX6_touch 46 = .ok (.iload_n 1, 1) := by decide +kernel
theorem dX6_touch_47 : decode cX6_touch 47 = .ok (.iload_n 2, 1) := by decide +kernel
theorem dX6_touch_48 : decode cX6_touch 48 = .ok (.invokevirtual 57, 3) := by decide +kernel
theorem dX6_touch_51 : decode cX6_touch 51 = .ok (.istore 7, 2) := by decide +kernel
theorem dX6_touch_53 : decode cX6_touch 53 = .ok (.aload_n 0, 1) := by decide +kernel
theorem dX6_touch_54 : decode cX6_touch 54 = .ok (.getfield 7, 3) := by decide +kernel
theorem dX6_touch_57 : decode cX6_touch 57 = .ok (.bipush 59, 2) := by decide +kernel
theorem dX6_touch_59 : decode cX6_touch 59 = .ok (.iaload, 1) := by decide +kernel
theorem dX6_touch_60 : decode cX6_touch 60 = .ok (.istore 8, 2) := by decide +kernel
theorem dX6_touch_62 : decode cX6_touch 62 = .ok (.aload_n 0, 1) := by decide +kernel
theorem dX6_touch_63 : decode cX6_touch 63 = .ok (.iload_n 1, 1) := by decide +kernel
theorem dX6_touch_64 : decode cX6_touch 64 = .ok (.iload_n 3, 1) := by decide +kernel
theorem dX6_touch_65 : decode cX6_touch 65 = .ok (.invokevirtual 60, 3) := by decide +kernel
theorem dX6_touch_68 : decode cX6_touch 68 = .ok (.aload_n 0, 1) := by decide +kernel
theorem dX6_touch_69 : decode cX6_touch 69 = .ok (.iload_n 2, 1) := by decide +kernel
theorem dX6_touch_70 : decode cX6_touch 70 = .ok (.iload_n 3, 1) := by decide +kernel
theorem dX6_touch_71 : decode cX6_touch 71 = .ok (.invokevirtual 60, 3) := by decide +kernel
theorem dX6_touch_74 : decode cX6_touch 74 = .ok (.iadd, 1) := by decide +kernel
theorem dX6_touch_75 : decode cX6_touch 75 = .ok (.istore 9, 2) := by decide +kernel
theorem dX6_touch_77 : decode cX6_touch 77 = .ok (.iload 5, 2) := by decide +kernel
theorem dX6_touch_79 : decode cX6_touch 79 = .ok (.iconst 1, 1) := by decide +kernel
theorem dX6_touch_80 : decode cX6_touch 80 = .ok (.if_icmp .ne 73, 3) := by decide +kernel
theorem dX6_touch_83 : decode cX6_touch 83 = .ok (.iload 6, 2) := by decide +kernel
theorem dX6_touch_85 : decode cX6_touch 85 = .ok (.iconst 1, 1) := by decide +kernel
theorem dX6_touch_86 : decode cX6_touch 86 = .ok (.if_icmp .ne 67, 3) := by decide +kernel
theorem dX6_touch_89 : decode cX6_touch 89 = .ok (.iload 9, 2) := by decide +kernel
theorem dX6_touch_91 : decode cX6_touch 91 = .ok (.iload 8, 2) := by decide +kernel
theorem dX6_touch_93 : decode cX6_touch 93 = .ok (.invokestatic 63, 3) := by decide +kernel
theorem dX6_touch_96 : decode cX6_touch 96 = .ok (.istore 10, 2) := by decide +kernel
theorem dX6_touch_98 : decode cX6_touch 98 = .ok (.iload 4, 2) := by decide +kernel
theorem dX6_touch_100 : decode cX6_touch 100 = .ok (.ifCond .eq 37, 3) := by decide +kernel
theorem dX6_touch_103 : decode cX6_touch 103 = .ok (.iload 7, 2) := by decide +kernel
theorem dX6_touch_105 : decode cX6_touch 105 = .ok (.iload 10, 2) := by decide +kernel
theorem dX6_touch_107 : decode cX6_touch 107 = .ok (.iload 10, 2) := by decide +kernel
theorem dX6_touch_109 : decode cX6_touch 109 = .ok (.imul, 1) := by decide +kernel
theorem dX6_touch_110 : decode cX6_touch 110 = .ok (.if_icmp .lt 23, 3) := by decide +kernel
theorem dX6_touch_113 : decode cX6_touch 113 = .ok (.iload 7, 2) := by decide +kernel
theorem dX6_touch_115 : decode cX6_touch 115 = .ok (.iload 9, 2) := by decide +kernel
theorem dX6_touch_117 : decode cX6_touch 117 = .ok (.iload 8, 2) := by decide +kernel
theorem dX6_touch_119 : decode cX6_touch 119 = .ok (.iadd, 1) := by decide +kernel
theorem dX6_touch_120 : decode cX6_touch 120 = .ok (.iload 9, 2) := by decide +kernel
theorem dX6_touch_122 : decode cX6_touch 122 = .ok (.iload 8, 2) := by decide +kernel
theorem dX6_touch_124 : decode cX6_touch 124 = .ok (.iadd, 1) := by decide +kernel
theorem dX6_touch_125 : decode cX6_touch 125 = .ok (.imul, 1) := by decide +kernel
theorem dX6_touch_126 : decode cX6_touch 126 = .ok (.if_icmp .gt 7, 3) := by decide +kernel
theorem dX6_touch_129 : decode cX6_touch 129 = .ok (.iconst 1, 1) := by decide +kernel
theorem dX6_touch_130 : decode cX6_touch 130 = .ok (.goto 22, 3) := by decide +kernel
theorem dX6_touch_133 : decode cX6_touch 133 = .ok (.iconst 0, 1) := by decide +kernel
theorem dX6_touch_134 : decode cX6_touch 134 = .ok (.goto 18, 3) := by decide +kernel
theorem dX6_touch_137 : decode cX6_touch 137 = .ok (.iload 7, 2) := by decide +kernel
theorem dX6_touch_139 : decode cX6_touch 139 = .ok (.iload 10, 2) := by decide +kernel
theorem dX6_touch_141 : decode cX6_touch 141 = .ok (.iload 10, 2) := by decide +kernel
theorem dX6_touch_143 : decode cX6_touch 143 = .ok (.imul, 1) := by decide +kernel
theorem dX6_touch_144 : decode cX6_touch 144 = .ok (.if_icmp .ge 7, 3) := by decide +kernel
theorem dX6_touch_147 : decode cX6_touch 147 = .ok (.iconst 1, 1) := by decide +kernel
theorem dX6_touch_148 : decode cX6_touch 148 = .ok (.goto 4, 3) := by decide +kernel
theorem dX6_touch_151 : decode cX6_touch 151 = .ok (.iconst 0, 1) := by decide +kernel
theorem dX6_touch_152 : decode cX6_touch 152 = .ok (.ireturn, 1) := by decide +kernel
theorem dX6_touch_153 : decode cX6_touch 153 = .ok (.iload 5, 2) := by decide +kernel
theorem dX6_touch_155 : decode cX6_touch 155 = .ok (.iconst 2, 1) := by decide +kernel
theorem dX6_touch_156 : decode cX6_touch 156 = .ok (.if_icmp .ne 12, 3) := by decide +kernel
theorem dX6_touch_159 : decode cX6_touch 159 = .ok (.aload_n 0, 1) := by decide +kernel
theorem dX6_touch_160 : decode cX6_touch 160 = .ok (.iload_n 1, 1) := by decide +kernel
theorem dX6_touch_161 : decode cX6_touch 161 = .ok (.iload_n 3, 1) := by decide +kernel
theorem dX6_touch_162 : decode cX6_touch 162 = .ok (.invokevirtual 60, 3) := by decide +kernel
theorem dX6_touch_165 : decode cX6_touch 165 = .ok (.goto 9, 3) := by decide +kernel
theorem dX6_touch_168 : decode cX6_touch 168 = .ok (.aload_n 0, 1) := by decide +kernel
theorem dX6_touch_169 : decode cX6_touch 169 = .ok (.iload_n 2, 1) := by decide +kernel
theorem dX6_touch_170 : decode cX6_touch 170 = .ok (.iload_n 3, 1) := by decide +kernel
theorem dX6_touch_171 : decode cX6_touch 171 = .ok (.invokevirtual 60, 3) := by decide +kernel
theorem dX6_touch_174 : decode cX6_touch 174 = .ok (.istore 10, 2) := by decide +kernel
theorem dX6_touch_176 : decode cX6_touch 176 = .ok (.iload 9, 2) := by decide +kernel
theorem dX6_touch_178 : decode cX6_touch 178 = .ok (.iload 10, 2) := by decide +kernel
theorem dX6_touch_180 : decode cX6_touch 180 = .ok (.isub, 1) := by decide +kernel
theorem dX6_touch_181 : decode cX6_touch 181 = .ok (.istore 11, 2) := by decide +kernel
theorem dX6_touch_183 : decode cX6_touch 183 = .ok (.iload 10, 2) := by decide +kernel
theorem dX6_touch_185 : decode cX6_touch 185 = .ok (.iload 11, 2) := by decide +kernel
theorem dX6_touch_187 : decode cX6_touch 187 = .ok (.isub, 1) := by decide +kernel
theorem dX6_touch_188 : decode cX6_touch 188 = .ok (.iload 8, 2) := by decide +kernel
theorem dX6_touch_190 : decode cX6_touch 190 = .ok (.invokestatic 63, 3) := by decide +kernel
theorem dX6_touch_193 : decode cX6_touch 193 = .ok (.istore 12, 2) := by decide +kernel
theorem dX6_touch_195 : decode cX6_touch 195 = .ok (.iload 10, 2) := by decide +kernel
theorem dX6_touch_197 : decode cX6_touch 197 = .ok (.iload 11, 2) := by decide +kernel
theorem dX6_touch_199 : decode cX6_touch 199 = .ok (.isub, 1) := by decide +kernel
theorem dX6_touch_200 : decode cX6_touch 200 = .ok (.iload 8, 2) := by decide +kernel
theorem dX6_touch_202 : decode cX6_touch 202 = .ok (.iadd, 1) := by decide +kernel
theorem dX6_touch_203 : decode cX6_touch 203 = .ok (.istore 13, 2) := by decide +kernel
theorem dX6_touch_205 : decode cX6_touch 205 = .ok (.iload 10, 2) := by decide +kernel
theorem dX6_touch_207 : decode cX6_touch 207 = .ok (.iload 11, 2) := by decide +kernel
theorem dX6_touch_209 : decode cX6_touch 209 = .ok (.if_icmp .le 7, 3) := by decide +kernel
theorem dX6_touch_212 : decode cX6_touch 212 = .ok (.iconst 1, 1) := by decide +kernel
theorem dX6_touch_213 : decode cX6_touch 213 = .ok (.goto 4, 3) := by decide +kernel
theorem dX6_touch_216 : decode cX6_touch 216 = .ok (.iconst 0, 1) := by decide +kernel
theorem dX6_touch_217 : decode cX6_touch 217 = .ok (.istore 14, 2) := by decide +kernel
theorem dX6_touch_219 : decode cX6_touch 219 = .ok (.iload 4, 2) := by decide +kernel
theorem dX6_touch_221 : decode cX6_touch 221 = .ok (.ifCond .eq 34, 3) := by decide +kernel
theorem dX6_touch_224 : decode cX6_touch 224 = .ok (.iload 14, 2) := by decide +kernel
theorem dX6_touch_226 : decode cX6_touch 226 = .ok (.ifCond .eq 27, 3) := by decide +kernel
theorem dX6_touch_229 : decode cX6_touch 229 = .ok (.iload 7, 2) := by decide +kernel
theorem dX6_touch_231 : decode cX6_touch 231 = .ok (.iload 12, 2) := by decide +kernel
theorem dX6_touch_233 : decode cX6_touch 233 = .ok (.iload 12, 2) := by decide +kernel
theorem dX6_touch_235 : decode cX6_touch 235 = .ok (.imul, 1) := by decide +kernel
theorem dX6_touch_236 : decode cX6_touch 236 = .ok (.if_icmp .lt 17, 3) := by decide +kernel
theorem dX6_touch_239 : decode cX6_touch 239 = .ok (.iload 7, 2) := by decide +kernel
theorem dX6_touch_241 : decode cX6_touch 241 = .ok (.iload 13, 2) := by decide +kernel
theorem dX6_touch_243 : decode cX6_touch 243 = .ok (.iload 13, 2) := by decide +kernel
theorem dX6_touch_245 : decode cX6_touch 245 = .ok (.imul, 1) := by decide +kernel
theorem dX6_touch_246 : decode cX6_touch 246 = .ok (.if_icmp .gt 7, 3) := by decide +kernel
theorem dX6_touch_249 : decode cX6_touch 249 = .ok (.iconst 1, 1) := by decide +kernel
theorem dX6_touch_250 : decode cX6_touch 250 = .ok (.goto 4, 3) := by decide +kernel
theorem dX6_touch_253 : decode cX6_touch 253 = .ok (.iconst 0, 1) := by decide +kernel
theorem dX6_touch_254 : decode cX6_touch 254 = .ok (.ireturn, 1) := by decide +kernel
theorem dX6_touch_255 : decode cX6_touch 255 = .ok (.iload 7, 2) := by decide +kernel
theorem dX6_touch_257 : decode cX6_touch 257 = .ok (.iload 9, 2) := by decide +kernel
theorem dX6_touch_259 : decode cX6_touch 259 = .ok (.iload 9, 2) := by decide +kernel
theorem dX6_touch_261 : decode cX6_touch 261 = .ok (.imul, 1) := by decide +kernel
theorem dX6_touch_262 : decode cX6_touch 262 = .ok (.if_icmp .ge 22, 3) := by decide +kernel
theorem dX6_touch_265 : decode cX6_touch 265 = .ok (.iload 14, 2) := by decide +kernel
theorem dX6_touch_267 : decode cX6_touch 267 = .ok (.ifCond .eq 13, 3) := by decide +kernel
theorem dX6_touch_270 : decode cX6_touch 270 = .ok (.iload 7, 2) := by decide +kernel
theorem dX6_touch_272 : decode cX6_touch 272 = .ok (.iload 13, 2) := by decide +kernel
theorem dX6_touch_274 : decode cX6_touch 274 = .ok (.iload 13, 2) := by decide +kernel
theorem dX6_touch_276 : decode cX6_touch 276 = .ok (.imul, 1) := by decide +kernel
theorem dX6_touch_277 : decode cX6_touch 277 = .ok (.if_icmp .le 7, 3) := by decide +kernel
theorem dX6_touch_280 : decode cX6_touch 280 = .ok (.iconst 1, 1) := by decide +kernel
theorem dX6_touch_281 : decode cX6_touch 281 = .ok (.goto 4, 3) := by decide +kernel
theorem dX6_touch_284 : decode cX6_touch 284 = .ok (.iconst 0, 1) := by decide +kernel
theorem dX6_touch_285 : decode cX6_touch 285 = .ok (.ireturn, 1) := by decide +kernel
set_option maxRecDepth 20000 in
theorem ggX6_meshOn_X6_touch : GoodIn wsX6_meshOn wsX6_touch := goodIn_r _ [5, 6, 7, 8, 9, 4, 10, 11, 12, 13, 14, 15, 16, 17, 18, 19, 20, 21, 22, 23, 24, 25, 26, 27, 28, 29, 30, 31, 32, 33, 34, 35, 36, 37, 38, 39, 40, 41, 42] (by decide +kernel) (by decide +kernel)
set_option maxRecDepth 20000 in
theorem gX6_meshOn_X6_touch : GoodIn wsX6_meshOn (wsV RX6 66 RX6 yX6_touch wsX6_touch) := goodIn_app (goodIn_of _ (by decide +kernel)) ggX6_meshOn_X6_touch
theorem dX6_meshOn_0 : decode cX6_meshOn 0 = .ok (.aload_n 0, 1) := by decide +kernel
theorem dX6_meshOn_1 : decode cX6_meshOn 1 = .ok (.iload_n 1, 1) := by decide +kernel
theorem dX6_meshOn_2 : decode cX6_meshOn 2 = .ok (.iload_n 2, 1) := by decide +kernel
theorem dX6_meshOn_3 : decode cX6_meshOn 3 = .ok (.iload_n 3, 1) := by decide +kernel
theorem dX6_meshOn_4 : decode cX6_meshOn 4 = .ok (.iconst 1, 1) := by decide +kernel
theorem dX6_meshOn_5 : decode cX6_meshOn 5 = .ok (.invokevirtual 66, 3) := by decide +kernel
theorem dX6_meshOn_8 : decode cX6_meshOn 8 = .ok (.ireturn, 1) := by decide +kernel
set_option maxRecDepth 20000 in
theorem ggX6_meshed_X6_meshOn : GoodIn wsX6_meshed wsX6_meshOn := goodIn_r _ [5, 6, 7, 8, 4, 9, 10, 11, 12, 13, 14, 15, 16, 17, 18, 19, 20, 21, 22, 23, 24, 25, 26, 27, 28, 29, 30, 31, 32, 33, 34, 35, 36, 37, 38, 39, 40, 41, 42, 43, 44, 45, 46] (by decide +kernel) (by decide +kernel)
set_option maxRecDepth 20000 in
theorem gX6_meshed_X6_meshOn : GoodIn wsX6_meshed (wsV RX6 70 RX6 yX6_meshOn wsX6_meshOn) := goodIn_app (goodIn_of _ (by decide +kernel)) ggX6_meshed_X6_meshOn
theorem dX6_meshed_0 : decode cX6_meshed 0 = .ok (.aload_n 0, 1) := by decide +kernel
theorem dX6_meshed_1 : decode cX6_meshed 1 = .ok (.iload_n 1, 1) := by decide +kernel
theorem dX6_meshed_2 : decode cX6_meshed 2 = .ok (.iload_n 2, 1) := by decide +kernel
theorem dX6_meshed_3 : decode cX6_meshed 3 = .ok (.iconst 0, 1) := by decide +kernel
theorem dX6_meshed_4 : decode cX6_meshed 4 = .ok (.invokevirtual 70, 3) := by decide +kernel
theorem dX6_meshed_7 : decode cX6_meshed 7 = .ok (.ifCond .eq 7, 3) := by decide +kernel
theorem dX6_meshed_10 : decode cX6_meshed 10 = .ok (.iconst 1, 1) := by decide +kernel
theorem dX6_meshed_11 : decode cX6_meshed 11 = .ok (.goto 4, 3) := by decide +kernel
theorem dX6_meshed_14 : decode cX6_meshed 14 = .ok (.iconst 0, 1) := by decide +kernel
theorem dX6_meshed_15 : decode cX6_meshed 15 = .ok (.aload_n 0, 1) := by decide +kernel
theorem dX6_meshed_16 : decode cX6_meshed 16 = .ok (.iload_n 1, 1) := by decide +kernel
theorem dX6_meshed_17 : decode cX6_meshed 17 = .ok (.iload_n 2, 1) := by decide +kernel
theorem dX6_meshed_18 : decode cX6_meshed 18 = .ok (.iconst 1, 1) := by decide +kernel
theorem dX6_meshed_19 : decode cX6_meshed 19 = .ok (.invokevirtual 70, 3) := by decide +kernel
theorem dX6_meshed_22 : decode cX6_meshed 22 = .ok (.ifCond .eq 7, 3) := by decide +kernel
theorem dX6_meshed_25 : decode cX6_meshed 25 = .ok (.iconst 2, 1) := by decide +kernel
theorem dX6_meshed_26 : decode cX6_meshed 26 = .ok (.goto 4, 3) := by decide +kernel
theorem dX6_meshed_29 : decode cX6_meshed 29 = .ok (.iconst 0, 1) := by decide +kernel
theorem dX6_meshed_30 : decode cX6_meshed 30 = .ok (.iadd, 1) := by decide +kernel
theorem dX6_meshed_31 : decode cX6_meshed 31 = .ok (.ireturn, 1) := by decide +kernel
set_option maxRecDepth 20000 in
theorem ggX6_partners_X6_meshed : GoodIn wsX6_partners wsX6_meshed := goodIn_r _ [6, 7, 8, 9, 5, 10, 11, 12, 13, 14, 1, 15, 16, 17, 18, 19, 20, 21, 22, 23, 24, 25, 26, 27, 28, 29, 30, 31, 32, 33, 34, 35, 36, 37, 38, 39, 40, 41, 42, 43, 44, 45, 46, 47, 48, 49, 50] (by decide +kernel) (by decide +kernel)
set_option maxRecDepth 20000 in
theorem gX6_partners_X6_meshed : GoodIn wsX6_partners (wsV RX6 73 RX6 yX6_meshed wsX6_meshed) := goodIn_app (goodIn_of _ (by decide +kernel)) ggX6_partners_X6_meshed
theorem dX6_partners_0 : decode cX6_partners 0 = .ok (.iconst 0, 1) := by decide +kernel
theorem dX6_partners_1 : decode cX6_partners 1 = .ok (.istore_n 3, 1) := by decide +kernel
theorem dX6_partners_2 : decode cX6_partners 2 = .ok (.iconst 0, 1) := by decide +kernel
theorem dX6_partners_3 : decode cX6_partners 3 = .ok (.istore 4, 2) := by decide +kernel
theorem dX6_partners_5 : decode cX6_partners 5 = .ok (.iload 4, 2) := by decide +kernel
theorem dX6_partners_7 : decode cX6_partners 7 = .ok (.aload_n 0, 1) := by decide +kernel
theorem dX6_partners_8 : decode cX6_partners 8 = .ok (.getfield 7, 3) := by decide +kernel
theorem dX6_partners_11 : decode cX6_partners 11 = .ok (.iconst 0, 1) := by decide +kernel
theorem dX6_partners_12 : decode cX6_partners 12 = .ok (.iaload, 1) := by decide +kernel
theorem dX6_partners_13 : decode cX6_partners 13 = .ok (.if_icmp .ge 29, 3) := by decide +kernel
theorem dX6_partners_16 : decode cX6_partners 16 = .ok (.iload_n 3, 1) := by decide +kernel
theorem dX6_partners_17 : decode cX6_partners 17 = .ok (.aload_n 0, 1) := by decide +kernel
theorem dX6_partners_18 : decode cX6_partners 18 = .ok (.iload_n 1, 1) := by decide +kernel
theorem dX6_partners_19 : decode cX6_partners 19 = .ok (.iload 4, 2) := by decide +kernel
theorem dX6_partners_21 : decode cX6_partners 21 = .ok (.invokevirtual 73, 3) := by decide +kernel
theorem dX6_partners_24 : decode cX6_partners 24 = .ok (.iload_n 2, 1) := by decide +kernel
theorem dX6_partners_25 : decode cX6_partners 25 = .ok (.iand, 1) := by decide +kernel
theorem dX6_partners_26 : decode cX6_partners 26 = .ok (.ifCond .le 7, 3) := by decide +kernel
theorem dX6_partners_29 : decode cX6_partners 29 = .ok (.iconst 1, 1) := by decide +kernel
theorem dX6_partners_30 : decode cX6_partners 30 = .ok (.goto 4, 3) := by decide +kernel
theorem dX6_partners_33 : decode cX6_partners 33 = .ok (.iconst 0, 1) := by decide +kernel
theorem dX6_partners_34 : decode cX6_partners 34 = .ok (.iadd, 1) := by decide +kernel
theorem dX6_partners_35 : decode cX6_partners 35 = .ok (.istore_n 3, 1) := by decide +kernel
theorem dX6_partners_36 : decode cX6_partners 36 = .ok (.iinc 4 1, 3) := by decide +kernel
theorem dX6_partners_39 : decode cX6_partners 39 = .ok (.goto (-34), 3) := by decide +kernel
theorem dX6_partners_42 : decode cX6_partners 42 = .ok (.iload_n 3, 1) := by decide +kernel
theorem dX6_partners_43 : decode cX6_partners 43 = .ok (.ireturn, 1) := by decide +kernel
set_option maxRecDepth 20000 in
theorem ggX6_overlaps_X6_touch : GoodIn wsX6_overlaps wsX6_touch := goodIn_r _ [6, 1, 7, 8, 9, 5, 10, 11, 12, 13, 14, 15, 16, 17, 18, 19, 20, 21, 22, 23, 24, 25, 26, 27, 28, 29, 30, 31, 32, 33, 34, 35, 36, 37, 38, 39, 40, 41, 42] (by decide +kernel) (by decide +kernel)
set_option maxRecDepth 20000 in
theorem gX6_overlaps_X6_touch : GoodIn wsX6_overlaps (wsV RX6 66 RX6 yX6_touch wsX6_touch) := goodIn_app (goodIn_of _ (by decide +kernel)) ggX6_overlaps_X6_touch
theorem dX6_overlaps_0 : decode cX6_overlaps 0 = .ok (.iconst 0, 1) := by decide +kernel
theorem dX6_overlaps_1 : decode cX6_overlaps 1 = .ok (.istore_n 3, 1) := by decide +kernel
theorem dX6_overlaps_2 : decode cX6_overlaps 2 = .ok (.iconst 0, 1) := by decide +kernel
theorem dX6_overlaps_3 : decode cX6_overlaps 3 = .ok (.istore 4, 2) := by decide +kernel
theorem dX6_overlaps_5 : decode cX6_overlaps 5 = .ok (.iload 4, 2) := by decide +kernel
theorem dX6_overlaps_7 : decode cX6_overlaps 7 = .ok (.aload_n 0, 1) := by decide +kernel
theorem dX6_overlaps_8 : decode cX6_overlaps 8 = .ok (.getfield 7, 3) := by decide +kernel
theorem dX6_overlaps_11 : decode cX6_overlaps 11 = .ok (.iconst 0, 1) := by decide +kernel
theorem dX6_overlaps_12 : decode cX6_overlaps 12 = .ok (.iaload, 1) := by decide +kernel
theorem dX6_overlaps_13 : decode cX6_overlaps 13 = .ok (.if_icmp .ge 29, 3) := by decide +kernel
theorem dX6_overlaps_16 : decode cX6_overlaps 16 = .ok (.iload_n 3, 1) := by decide +kernel
theorem dX6_overlaps_17 : decode cX6_overlaps 17 = .ok (.aload_n 0, 1) := by decide +kernel
theorem dX6_overlaps_18 : decode cX6_overlaps 18 = .ok (.iload_n 1, 1) := by decide +kernel
theorem dX6_overlaps_19 : decode cX6_overlaps 19 = .ok (.iload 4, 2) := by decide +kernel
theorem dX6_overlaps_21 : decode cX6_overlaps 21 = .ok (.iload_n 2, 1) := by decide +kernel
theorem dX6_overlaps_22 : decode cX6_overlaps 22 = .ok (.iconst 0, 1) := by decide +kernel
theorem dX6_overlaps_23 : decode cX6_overlaps 23 = .ok (.invokevirtual 66, 3) := by decide +kernel
theorem dX6_overlaps_26 : decode cX6_overlaps 26 = .ok (.ifCond .eq 7, 3) := by decide +kernel
theorem dX6_overlaps_29 : decode cX6_overlaps 29 = .ok (.iconst 1, 1) := by decide +kernel
theorem dX6_overlaps_30 : decode cX6_overlaps 30 = .ok (.goto 4, 3) := by decide +kernel
theorem dX6_overlaps_33 : decode cX6_overlaps 33 = .ok (.iconst 0, 1) := by decide +kernel
theorem dX6_overlaps_34 : decode cX6_overlaps 34 = .ok (.iadd, 1) := by decide +kernel
theorem dX6_overlaps_35 : decode cX6_overlaps 35 = .ok (.istore_n 3, 1) := by decide +kernel
theorem dX6_overlaps_36 : decode cX6_overlaps 36 = .ok (.iinc 4 1, 3) := by decide +kernel
theorem dX6_overlaps_39 : decode cX6_overlaps 39 = .ok (.goto (-34), 3) := by decide +kernel
theorem dX6_overlaps_42 : decode cX6_overlaps 42 = .ok (.iload_n 3, 1) := by decide +kernel
theorem dX6_overlaps_43 : decode cX6_overlaps 43 = .ok (.ireturn, 1) := by decide +kernel
theorem dX6_put_0 : decode cX6_put 0 = .ok (.aload_n 0, 1) := by decide +kernel
theorem dX6_put_1 : decode cX6_put 1 = .ok (.getfield 7, 3) := by decide +kernel
theorem dX6_put_4 : decode cX6_put 4 = .ok (.bipush 19, 2) := by decide +kernel
theorem dX6_put_6 : decode cX6_put 6 = .ok (.iconst 2, 1) := by decide +kernel
theorem dX6_put_7 : decode cX6_put 7 = .ok (.iload_n 1, 1) := by decide +kernel
theorem dX6_put_8 : decode cX6_put 8 = .ok (.imul, 1) := by decide +kernel
theorem dX6_put_9 : decode cX6_put 9 = .ok (.iadd, 1) := by decide +kernel
theorem dX6_put_10 : decode cX6_put 10 = .ok (.iload_n 2, 1) := by decide +kernel
theorem dX6_put_11 : decode cX6_put 11 = .ok (.iadd, 1) := by decide +kernel
theorem dX6_put_12 : decode cX6_put 12 = .ok (.iload 4, 2) := by decide +kernel
theorem dX6_put_14 : decode cX6_put 14 = .ok (.ifCond .ne 7, 3) := by decide +kernel
theorem dX6_put_17 : decode cX6_put 17 = .ok (.iconst 0, 1) := by decide +kernel
theorem dX6_put_18 : decode cX6_put 18 = .ok (.goto 4, 3) := by decide +kernel
theorem dX6_put_21 : decode cX6_put 21 = .ok (.iload_n 3, 1) := by decide +kernel
theorem dX6_put_22 : decode cX6_put 22 = .ok (.iastore, 1) := by decide +kernel
theorem dX6_put_23 : decode cX6_put 23 = .ok (.aload_n 0, 1) := by decide +kernel
theorem dX6_put_24 : decode cX6_put 24 = .ok (.getfield 7, 3) := by decide +kernel
theorem dX6_put_27 : decode cX6_put 27 = .ok (.bipush 37, 2) := by decide +kernel
theorem dX6_put_29 : decode cX6_put 29 = .ok (.iconst 2, 1) := by decide +kernel
theorem dX6_put_30 : decode cX6_put 30 = .ok (.iload_n 1, 1) := by decide +kernel
theorem dX6_put_31 : decode cX6_put 31 = .ok (.imul, 1) := by decide +kernel
theorem dX6_put_32 : decode cX6_put 32 = .ok (.iadd, 1) := by decide +kernel
theorem dX6_put_33 : decode cX6_put 33 = .ok (.iload_n 2, 1) := by decide +kernel
theorem dX6_put_34 : decode cX6_put 34 = .ok (.iadd, 1) := by decide +kernel
theorem dX6_put_35 : decode cX6_put 35 = .ok (.iload 4, 2) := by decide +kernel
theorem dX6_put_37 : decode cX6_put 37 = .ok (.iastore, 1) := by decide +kernel
theorem dX6_put_38 : decode cX6_put 38 = .ok (.return_, 1) := by decide +kernel
theorem dX6_common_0 : decode cX6_common 0 = .ok (.lload_n 0, 1) := by decide +kernel
theorem dX6_common_1 : decode cX6_common 1 = .ok (.lconst 0, 1) := by decide +kernel
theorem dX6_common_2 : decode cX6_common 2 = .ok (.lcmp, 1) := by decide +kernel
theorem dX6_common_3 : decode cX6_common 3 = .ok (.ifCond .ge 8, 3) := by decide +kernel
theorem dX6_common_6 : decode cX6_common 6 = .ok (.lload_n 0, 1) := by decide +kernel
theorem dX6_common_7 : decode cX6_common 7 = .ok (.lneg, 1) := by decide +kernel
theorem dX6_common_8 : decode cX6_common 8 = .ok (.goto 4, 3) := by decide +kernel
theorem dX6_common_11 : decode cX6_common 11 = .ok (.lload_n 0, 1) := by decide +kernel
theorem dX6_common_12 : decode cX6_common 12 = .ok (.lstore 4, 2) := by decide +kernel
theorem dX6_common_14 : decode cX6_common 14 = .ok (.lload_n 2, 1) := by decide +kernel
theorem dX6_common_15 : decode cX6_common 15 = .ok (.lstore 6, 2) := by decide +kernel
theorem dX6_common_17 : decode cX6_common 17 = .ok (.lload 6, 2) := by decide +kernel
theorem dX6_common_19 : decode cX6_common 19 = .ok (.lconst 0, 1) := by decide +kernel
theorem dX6_common_20 : decode cX6_common 20 = .ok (.lcmp, 1) := by decide +kernel
theorem dX6_common_21 : decode cX6_common 21 = .ok (.ifCond .eq 21, 3) := by decide +kernel
theorem dX6_common_24 : decode cX6_common 24 = .ok (.lload 4, 2) := by decide +kernel
theorem dX6_common_26 : decode cX6_common 26 = .ok (.lload 6, 2) := by decide +kernel
theorem dX6_common_28 : decode cX6_common 28 = .ok (.lrem, 1) := by decide +kernel
theorem dX6_common_29 : decode cX6_common 29 = .ok (.lstore 8, 2) := by decide +kernel
theorem dX6_common_31 : decode cX6_common 31 = .ok (.lload 6, 2) := by decide +kernel
theorem dX6_common_33 : decode cX6_common 33 = .ok (.lstore 4, 2) := by decide +kernel
theorem dX6_common_35 : decode cX6_common 35 = .ok (.lload 8, 2) := by decide +kernel
theorem dX6_common_37 : decode cX6_common 37 = .ok (.lstore 6, 2) := by decide +kernel
theorem dX6_common_39 : decode cX6_common 39 = .ok (.goto (-22), 3) := by decide +kernel
theorem dX6_common_42 : decode cX6_common 42 = .ok (.lload 4, 2) := by decide +kernel
theorem dX6_common_44 : decode cX6_common 44 = .ok (.lreturn, 1) := by decide +kernel
set_option maxRecDepth 20000 in
theorem ggX6_goOn_X6_kind : GoodIn wsX6_goOn wsX6_kind := goodIn_r _ [8, 9, 17, 18, 19, 20, 21, 22, 23, 24, 25, 26, 27, 28, 29, 30, 31, 32, 33, 34, 35, 36, 37] (by decide +kernel) (by decide +kernel)
set_option maxRecDepth 20000 in
theorem gX6_goOn_X6_kind : GoodIn wsX6_goOn (wsV RX6 53 RX6 yX6_kind wsX6_kind) := goodIn_app (goodIn_of _ (by decide +kernel)) ggX6_goOn_X6_kind
set_option maxRecDepth 20000 in
theorem ggX6_goOn_X6_teeth : GoodIn wsX6_goOn wsX6_teeth := goodIn_r _ [13, 9, 17, 18, 19, 20, 21, 22, 23, 24, 25, 26, 27, 28, 29, 30, 31, 32, 33, 34, 35, 36, 37] (by decide +kernel) (by decide +kernel)
set_option maxRecDepth 20000 in
theorem gX6_goOn_X6_teeth : GoodIn wsX6_goOn (wsV RX6 60 RX6 yX6_teeth wsX6_teeth) := goodIn_app (goodIn_of _ (by decide +kernel)) ggX6_goOn_X6_teeth
set_option maxRecDepth 20000 in
theorem ggX6_goOn_X6_common : GoodIn wsX6_goOn wsX6_common := goodIn_r _ [16] (by decide +kernel) (by decide +kernel)
set_option maxRecDepth 20000 in
theorem gX6_goOn_X6_common : GoodIn wsX6_goOn (va_wsS RX6 78 yX6_common wsX6_common) := goodIn_app (goodIn_of _ (by decide +kernel)) ggX6_goOn_X6_common
theorem dX6_goOn_0 : decode cX6_goOn 0 = .ok (.aload_n 0, 1) := by decide +kernel
theorem dX6_goOn_1 : decode cX6_goOn 1 = .ok (.iload 5, 2) := by decide +kernel
theorem dX6_goOn_3 : decode cX6_goOn 3 = .ok (.iload 7, 2) := by decide +kernel
theorem dX6_goOn_5 : decode cX6_goOn 5 = .ok (.invokevirtual 53, 3) := by decide +kernel
theorem dX6_goOn_8 : decode cX6_goOn 8 = .ok (.iconst 1, 1) := by decide +kernel
theorem dX6_goOn_9 : decode cX6_goOn 9 = .ok (.if_icmp .ne 19, 3) := by decide +kernel
theorem dX6_goOn_12 : decode cX6_goOn 12 = .ok (.aload_n 0, 1) := by decide +kernel
theorem dX6_goOn_13 : decode cX6_goOn 13 = .ok (.iload 6, 2) := by decide +kernel
theorem dX6_goOn_15 : decode cX6_goOn 15 = .ok (.iload 7, 2) := by decide +kernel
theorem dX6_goOn_17 : decode cX6_goOn 17 = .ok (.invokevirtual 53, 3) := by decide +kernel
theorem dX6_goOn_20 : decode cX6_goOn 20 = .ok (.iconst 1, 1) := by decide +kernel
theorem dX6_goOn_21 : decode cX6_goOn 21 = .ok (.if_icmp .ne 7, 3) := by decide +kernel
theorem dX6_goOn_24 : decode cX6_goOn 24 = .ok (.iconst 1, 1) := by decide +kernel
theorem dX6_goOn_25 : decode cX6_goOn 25 = .ok (.goto 4, 3) := by decide +kernel
theorem dX6_goOn_28 : decode cX6_goOn 28 = .ok (.iconst 0, 1) := by decide +kernel
theorem dX6_goOn_29 : decode cX6_goOn 29 = .ok (.istore 8, 2) := by decide +kernel
theorem dX6_goOn_31 : decode cX6_goOn 31 = .ok (.lload_n 1, 1) := by decide +kernel
theorem dX6_goOn_32 : decode cX6_goOn 32 = .ok (.aload_n 0, 1) := by decide +kernel
theorem dX6_goOn_33 : decode cX6_goOn 33 = .ok (.iload 5, 2) := by decide +kernel
theorem dX6_goOn_35 : decode cX6_goOn 35 = .ok (.iload 7, 2) := by decide +kernel
theorem dX6_goOn_37 : decode cX6_goOn 37 = .ok (.invokevirtual 60, 3) := by decide +kernel
theorem dX6_goOn_40 : decode cX6_goOn 40 = .ok (.i2l, 1) := by decide +kernel
theorem dX6_goOn_41 : decode cX6_goOn 41 = .ok (.lmul, 1) := by decide +kernel
theorem dX6_goOn_42 : decode cX6_goOn 42 = .ok (.iload 8, 2) := by decide +kernel
theorem dX6_goOn_44 : decode cX6_goOn 44 = .ok (.ifCond .eq 9, 3) := by decide +kernel
theorem dX6_goOn_47 : decode cX6_goOn 47 = .ok (.ldc2_w 76, 3) := by decide +kernel
theorem dX6_goOn_50 : decode cX6_goOn 50 = .ok (.goto 4, 3) := by decide +kernel
theorem dX6_goOn_53 : decode cX6_goOn 53 = .ok (.lconst 1, 1) := by decide +kernel
theorem dX6_goOn_54 : decode cX6_goOn 54 = .ok (.lmul, 1) := by decide +kernel
theorem dX6_goOn_55 : decode cX6_goOn 55 = .ok (.lstore 9, 2) := by decide +kernel
theorem dX6_goOn_57 : decode cX6_goOn 57 = .ok (.lload_n 3, 1) := by decide +kernel
theorem dX6_goOn_58 : decode cX6_goOn 58 = .ok (.aload_n 0, 1) := by decide +kernel
theorem dX6_goOn_59 : decode cX6_goOn 59 = .ok (.iload 6, 2) := by decide +kernel
theorem dX6_goOn_61 : decode cX6_goOn 61 = .ok (.iload 7, 2) := by decide +kernel
theorem dX6_goOn_63 : decode cX6_goOn 63 = .ok (.invokevirtual 60, 3) := by decide +kernel
theorem dX6_goOn_66 : decode cX6_goOn 66 = .ok (.i2l, 1) := by decide +kernel
theorem dX6_goOn_67 : decode cX6_goOn 67 = .ok (.lmul, 1) := by decide +kernel
theorem dX6_goOn_68 : decode cX6_goOn 68 = .ok (.lstore 11, 2) := by decide +kernel
theorem dX6_goOn_70 : decode cX6_goOn 70 = .ok (.lload 9, 2) := by decide +kernel
theorem dX6_goOn_72 : decode cX6_goOn 72 = .ok (.lload 11, 2) := by decide +kernel
theorem dX6_goOn_74 : decode cX6_goOn 74 = .ok (.invokestatic 78, 3) := by decide +kernel
theorem dX6_goOn_77 : decode cX6_goOn 77 = .ok (.lstore 13, 2) := by decide +kernel
theorem dX6_goOn_79 : decode cX6_goOn 79 = .ok (.aload_n 0, 1) := by decide +kernel
theorem dX6_goOn_80 : decode cX6_goOn 80 = .ok (.lload 9, 2) := by decide +kernel
theorem dX6_goOn_82 : decode cX6_goOn 82 = .ok (.lload 13, 2) := by decide +kernel
theorem dX6_goOn_84 : decode cX6_goOn 84 = .ok (.ldiv, 1) := by decide +kernel
theorem dX6_goOn_85 : decode cX6_goOn 85 = .ok (.putfield 82, 3) := by decide +kernel
theorem dX6_goOn_88 : decode cX6_goOn 88 = .ok (.aload_n 0, 1) := by decide +kernel
theorem dX6_goOn_89 : decode cX6_goOn 89 = .ok (.lload 11, 2) := by decide +kernel
theorem dX6_goOn_91 : decode cX6_goOn 91 = .ok (.lload 13, 2) := by decide +kernel
theorem dX6_goOn_93 : decode cX6_goOn 93 = .ok (.ldiv, 1) := by decide +kernel
theorem dX6_goOn_94 : decode cX6_goOn 94 = .ok (.putfield 86, 3) := by decide +kernel
theorem dX6_goOn_97 : decode cX6_goOn 97 = .ok (.return_, 1) := by decide +kernel
set_option maxRecDepth 20000 in
theorem ggX6_layOut_X6_meshOn : GoodIn wsX6_layOut wsX6_meshOn := goodIn_r _ [12, 13, 14, 15, 11, 16, 3, 17, 18, 19, 20, 21, 22, 23, 24, 25, 26, 27, 28, 29, 30, 31, 40, 41, 42, 43, 44, 45, 46, 47, 48, 49, 50, 51, 52, 53, 54, 55, 56, 57, 58, 59, 60] (by decide +kernel) (by decide +kernel)
set_option maxRecDepth 20000 in
theorem gX6_layOut_X6_meshOn : GoodIn wsX6_layOut (wsV RX6 70 RX6 yX6_meshOn wsX6_meshOn) := goodIn_app (goodIn_of _ (by decide +kernel)) ggX6_layOut_X6_meshOn
set_option maxRecDepth 20000 in
theorem ggX6_layOut_X6_goOn : GoodIn wsX6_layOut wsX6_goOn := goodIn_r _ [35, 36, 6, 7, 17, 18, 19, 11, 20, 3, 25, 26, 27, 28, 37, 38, 39, 40, 41, 42, 43, 44, 45, 46, 47, 48, 49, 50, 51, 52, 53, 54, 55, 56, 57, 58, 59, 60] (by decide +kernel) (by decide +kernel)
set_option maxRecDepth 20000 in
theorem gX6_layOut_X6_goOn : GoodIn wsX6_layOut (wsV RX6 93 RX6 yX6_goOn wsX6_goOn) := goodIn_app (goodIn_of _ (by decide +kernel)) ggX6_layOut_X6_goOn
theorem dX6_layOut_0 : decode cX6_layOut 0 = .ok (.aload_n 0, 1) := by decide +kernel
theorem dX6_layOut_1 : decode cX6_layOut 1 = .ok (.iconst 0, 1) := by decide +kernel
theorem dX6_layOut_2 : decode cX6_layOut 2 = .ok (.putfield 89, 3) := by decide +kernel
theorem dX6_layOut_5 : decode cX6_layOut 5 = .ok (.iconst 0, 1) := by decide +kernel
theorem dX6_layOut_6 : decode cX6_layOut 6 = .ok (.istore_n 1, 1) := by decide +kernel
theorem dX6_layOut_7 : decode cX6_layOut 7 = .ok (.iload_n 1, 1) := by decide +kernel
theorem dX6_layOut_8 : decode cX6_layOut 8 = .ok (.bipush 9, 2) := by decide +kernel
theorem dX6_layOut_10 : decode cX6_layOut 10 = .ok (.if_icmp .ge 58, 3) := by decide +kernel
theorem dX6_layOut_13 : decode cX6_layOut 13 = .ok (.aload_n 0, 1) := by decide +kernel
theorem dX6_layOut_14 : decode cX6_layOut 14 = .ok (.getfield 29, 3) := by decide +kernel
theorem dX6_layOut_17 : decode cX6_layOut 17 = .ok (.iload_n 1, 1) := by decide +kernel
theorem dX6_layOut_18 : decode cX6_layOut 18 = .ok (.iload_n 1, 1) := by decide +kernel
theorem dX6_layOut_19 : decode cX6_layOut 19 = .ok (.aload_n 0, 1) := by decide +kernel
theorem dX6_layOut_20 : decode cX6_layOut 20 = .ok (.getfield 7, 3) := by decide +kernel
theorem dX6_layOut_23 : decode cX6_layOut 23 = .ok (.bipush 55, 2) := by decide +kernel
theorem dX6_layOut_25 : decode cX6_layOut 25 = .ok (.iaload, 1) := by decide +kernel
theorem dX6_layOut_26 : decode cX6_layOut 26 = .ok (.if_icmp .ne 7, 3) := by decide +kernel
theorem dX6_layOut_29 : decode cX6_layOut 29 = .ok (.iconst 1, 1) := by decide +kernel
theorem dX6_layOut_30 : decode cX6_layOut 30 = .ok (.goto 4, 3) := by decide +kernel
theorem dX6_layOut_33 : decode cX6_layOut 33 = .ok (.iconst 0, 1) := by decide +kernel
theorem dX6_layOut_34 : decode cX6_layOut 34 = .ok (.bastore, 1) := by decide +kernel
theorem dX6_layOut_35 : decode cX6_layOut 35 = .ok (.aload_n 0, 1) := by decide +kernel
theorem dX6_layOut_36 : decode cX6_layOut 36 = .ok (.getfield 22, 3) := by decide +kernel
theorem dX6_layOut_39 : decode cX6_layOut 39 = .ok (.iload_n 1, 1) := by decide +kernel
theorem dX6_layOut_40 : decode cX6_layOut 40 = .ok (.aload_n 0, 1) := by decide +kernel
theorem dX6_layOut_41 : decode cX6_layOut 41 = .ok (.getfield 29, 3) := by decide +kernel
theorem dX6_layOut_44 : decode cX6_layOut 44 = .ok (.iload_n 1, 1) := by decide +kernel
theorem dX6_layOut_45 : decode cX6_layOut 45 = .ok (.baload, 1) := by decide +kernel
theorem dX6_layOut_46 : decode cX6_layOut 46 = .ok (.ifCond .eq 7, 3) := by decide +kernel
theorem dX6_layOut_49 : decode cX6_layOut 49 = .ok (.lconst 1, 1) := by decide +kernel
theorem dX6_layOut_50 : decode cX6_layOut 50 = .ok (.goto 4, 3) := by decide +kernel
theorem dX6_layOut_53 : decode cX6_layOut 53 = .ok (.lconst 0, 1) := by decide +kernel
theorem dX6_layOut_54 : decode cX6_layOut 54 = .ok (.lastore, 1) := by decide +kernel
theorem dX6_layOut_55 : decode cX6_layOut 55 = .ok (.aload_n 0, 1) := by decide +kernel
theorem dX6_layOut_56 : decode cX6_layOut 56 = .ok (.getfield 26, 3) := by decide +kernel
theorem dX6_layOut_59 : decode cX6_layOut 59 = .ok (.iload_n 1, 1) := by decide +kernel
theorem dX6_layOut_60 : decode cX6_layOut 60 = .ok (.lconst 1, 1) := by decide +kernel
theorem dX6_layOut_61 : decode cX6_layOut 61 = .ok (.lastore, 1) := by decide +kernel
theorem dX6_layOut_62 : decode cX6_layOut 62 = .ok (.iinc 1 1, 3) := by decide +kernel
theorem dX6_layOut_65 : decode cX6_layOut 65 = .ok (.goto (-58), 3) := by decide +kernel
theorem dX6_layOut_68 : decode cX6_layOut 68 = .ok (.iconst 1, 1) := by decide +kernel
theorem dX6_layOut_69 : decode cX6_layOut 69 = .ok (.istore_n 1, 1) := by decide +kernel
theorem dX6_layOut_70 : decode cX6_layOut 70 = .ok (.iload_n 1, 1) := by decide +kernel
theorem dX6_layOut_71 : decode cX6_layOut 71 = .ok (.ifCond .eq 247, 3) := by decide +kernel
theorem dX6_layOut_74 : decode cX6_layOut 74 = .ok (.iconst 0, 1) := by decide +kernel
theorem dX6_layOut_75 : decode cX6_layOut 75 = .ok (.istore_n 1, 1) := by decide +kernel
theorem dX6_layOut_76 : decode cX6_layOut 76 = .ok (.iconst 0, 1) := by decide +kernel
theorem dX6_layOut_77 : decode cX6_layOut 77 = .ok (.istore_n 2, 1) := by decide +kernel
theorem dX6_layOut_78 : decode cX6_layOut 78 = .ok (.iload_n 2, 1) := by decide +kernel
theorem dX6_layOut_79 : decode cX6_layOut 79 = .ok (.sipush 162, 3) := by decide +kernel
theorem dX6_layOut_82 : decode cX6_layOut 82 = .ok (.if_icmp .ge 233, 3) := by decide +kernel
theorem dX6_layOut_85 : decode cX6_layOut 85 = .ok (.iload_n 2, 1) := by decide +kernel
theorem dX6_layOut_86 : decode cX6_layOut 86 = .ok (.bipush 18, 2) := by decide +kernel
theorem dX6_layOut_88 : decode cX6_layOut 88 = .ok (.idiv, 1) := by decide +kernel
theorem dX6_layOut_89 : decode cX6_layOut 89 = .ok (.istore_n 3, 1) := by decide +kernel
theorem dX6_layOut_90 : decode cX6_layOut 90 = .ok (.iload_n 2, 1) := by decide +kernel
theorem dX6_layOut_91 : decode cX6_layOut 91 = .ok (.iconst 2, 1) := by decide +kernel
theorem dX6_layOut_92 : decode cX6_layOut 92 = .ok (.idiv, 1) := by decide +kernel
theorem dX6_layOut_93 : decode cX6_layOut 93 = .ok (.bipush 9, 2) := by decide +kernel
theorem dX6_layOut_95 : decode cX6_layOut 95 = .ok (.irem, 1) := by decide +kernel
theorem dX6_layOut_96 : decode cX6_layOut 96 = .ok (.istore 4, 2) := by decide +kernel
theorem dX6_layOut_98 : decode cX6_layOut 98 = .ok (.iload_n 3, 1) := by decide +kernel
theorem dX6_layOut_99 : decode cX6_layOut 99 = .ok (.aload_n 0, 1) := by decide +kernel
theorem dX6_layOut_100 : decode cX6_layOut 100 = .ok (.getfield 7, 3) := by decide +kernel
theorem dX6_layOut_103 : decode cX6_layOut 103 = .ok (.iconst 0, 1) := by decide +kernel
theorem dX6_layOut_104 : decode cX6_layOut 104 = .ok (.iaload, 1) := by decide +kernel
theorem dX6_layOut_105 : decode cX6_layOut 105 = .ok (.if_icmp .ge 204, 3) := by decide +kernel
theorem dX6_layOut_108 : decode cX6_layOut 108 = .ok (.iload 4, 2) := by decide +kernel
theorem dX6_layOut_110 : decode cX6_layOut 110 = .ok (.aload_n 0, 1) := by decide +kernel
theorem dX6_layOut_111 : decode cX6_layOut 111 = .ok (.getfield 7, 3) := by decide +kernel
theorem dX6_layOut_114 : decode cX6_layOut 114 = .ok (.iconst 0, 1) := by decide +kernel
theorem dX6_layOut_115 : decode cX6_layOut 115 = .ok (.iaload, 1) := by decide +kernel
theorem dX6_layOut_116 : decode cX6_layOut 116 = .ok (.if_icmp .ge 193, 3) := by decide +kernel
theorem dX6_layOut_119 : decode cX6_layOut 119 = .ok (.aload_n 0, 1) := by decide +kernel
theorem dX6_layOut_120 : decode cX6_layOut 120 = .ok (.getfield 29, 3) := by decide +kernel
theorem dX6_layOut_123 : decode cX6_layOut 123 = .ok (.iload_n 3, 1) := by decide +kernel
theorem dX6_layOut_124 : decode cX6_layOut 124 = .ok (.baload, 1) := by decide +kernel
theorem dX6_layOut_125 : decode cX6_layOut 125 = .ok (.ifCond .eq 184, 3) := by decide +kernel
theorem dX6_layOut_128 : decode cX6_layOut 128 = .ok (.aload_n 0, 1) := by decide +kernel
theorem dX6_layOut_129 : decode cX6_layOut 129 = .ok (.iload_n 3, 1) := by decide +kernel
theorem dX6_layOut_130 : decode cX6_layOut 130 = .ok (.iload 4, 2) := by decide +kernel
theorem dX6_layOut_132 : decode cX6_layOut 132 = .ok (.iload_n 2, 1) := by decide +kernel
theorem dX6_layOut_133 : decode cX6_layOut 133 = .ok (.iconst 2, 1) := by decide +kernel
theorem dX6_layOut_134 : decode cX6_layOut 134 = .ok (.irem, 1) := by decide +kernel
theorem dX6_layOut_135 : decode cX6_layOut 135 = .ok (.invokevirtual 70, 3) := by decide +kernel
theorem dX6_layOut_138 : decode cX6_layOut 138 = .ok (.ifCond .eq 171, 3) := by decide +kernel
theorem dX6_layOut_141 : decode cX6_layOut 141 = .ok (.aload_n 0, 1) := by decide +kernel
theorem dX6_layOut_142 : decode cX6_layOut 142 = .ok (.aload_n 0, 1) := by decide +kernel
theorem dX6_layOut_143 : decode cX6_layOut 143 = .ok (.getfield 22, 3) := by decide +kernel
theorem dX6_layOut_146 : decode cX6_layOut 146 = .ok (.iload_n 3, 1) := by decide +kernel
theorem dX6_layOut_147 : decode cX6_layOut 147 = .ok (.laload, 1) := by decide +kernel
theorem dX6_layOut_148 : decode cX6_layOut 148 = .ok (.aload_n 0, 1) := by decide +kernel
theorem dX6_layOut_149 : decode cX6_layOut 149 = .ok (.getfield 26, 3) := by decide +kernel
theorem dX6_layOut_152 : decode cX6_layOut 152 = .ok (.iload_n 3, 1) := by decide +kernel
theorem dX6_layOut_153 : decode cX6_layOut 153 = .ok (.laload, 1) := by decide +kernel
theorem dX6_layOut_154 : decode cX6_layOut 154 = .ok (.iload_n 3, 1) := by decide +kernel
theorem dX6_layOut_155 : decode cX6_layOut 155 = .ok (.iload 4, 2) := by decide +kernel
theorem dX6_layOut_157 : decode cX6_layOut 157 = .ok (.iload_n 2, 1) := by decide +kernel
theorem dX6_layOut_158 : decode cX6_layOut 158 = .ok (.iconst 2, 1) := by decide +kernel
theorem dX6_layOut_159 : decode cX6_layOut 159 = .ok (.irem, 1) := by decide +kernel
theorem dX6_layOut_160 : decode cX6_layOut 160 = .ok (.invokevirtual 93, 3) := by decide +kernel
theorem dX6_layOut_163 : decode cX6_layOut 163 = .ok (.aload_n 0, 1) := by decide +kernel
theorem dX6_layOut_164 : decode cX6_layOut 164 = .ok (.aload_n 0, 1) := by decide +kernel
theorem dX6_layOut_165 : decode cX6_layOut 165 = .ok (.getfield 89, 3) := by decide +kernel
theorem dX6_layOut_168 : decode cX6_layOut 168 = .ok (.ifCond .ne 43, 3) := by decide +kernel
theorem dX6_layOut_171 : decode cX6_layOut 171 = .ok (.aload_n 0, 1) := by decide +kernel
theorem dX6_layOut_172 : decode cX6_layOut 172 = .ok (.getfield 29, 3) := by decide +kernel
theorem dX6_layOut_175 : decode cX6_layOut 175 = .ok (.iload 4, 2) := by decide +kernel
theorem dX6_layOut_177 : decode cX6_layOut 177 = .ok (.baload, 1) := by decide +kernel
theorem dX6_layOut_178 : decode cX6_layOut 178 = .ok (.ifCond .eq 37, 3) := by decide +kernel
theorem dX6_layOut_181 : decode cX6_layOut 181 = .ok (.aload_n 0, 1) := by decide +kernel
theorem dX6_layOut_182 : decode cX6_layOut 182 = .ok (.getfield 22, 3) := by decide +kernel
theorem dX6_layOut_185 : decode cX6_layOut 185 = .ok (.iload 4, 2) := by decide +kernel
theorem dX6_layOut_187 : decode cX6_layOut 187 = .ok (.laload, 1) := by decide +kernel
theorem dX6_layOut_188 : decode cX6_layOut 188 = .ok (.aload_n 0, 1) := by decide +kernel
theorem dX6_layOut_189 : decode cX6_layOut 189 = .ok (.getfield 82, 3) := by decide +kernel
theorem dX6_layOut_192 : decode cX6_layOut 192 = .ok (.lcmp, 1) := by decide +kernel
theorem dX6_layOut_193 : decode cX6_layOut 193 = .ok (.ifCond .ne 18, 3) := by decide +kernel
theorem dX6_layOut_196 : decode cX6_layOut 196 = .ok (.aload_n 0, 1) := by decide +kernel
theorem dX6_layOut_197 : decode cX6_layOut 197 = .ok (.getfield 26, 3) := by decide +kernel
theorem dX6_layOut_200 : decode cX6_layOut 200 = .ok (.iload 4, 2) := by decide +kernel
theorem dX6_layOut_202 : decode cX6_layOut 202 = .ok (.laload, 1) := by decide +kernel
theorem dX6_layOut_203 : decode cX6_layOut 203 = .ok (.aload_n 0, 1) := by decide +kernel
theorem dX6_layOut_204 : decode cX6_layOut 204 = .ok (.getfield 86, 3) := by decide +kernel
theorem dX6_layOut_207 : decode cX6_layOut 207 = .ok (.lcmp, 1) := by decide +kernel
theorem dX6_layOut_208 : decode cX6_layOut 208 = .ok (.ifCond .eq 7, 3) := by decide +kernel
theorem dX6_layOut_211 : decode cX6_layOut 211 = .ok (.iconst 1, 1) := by decide +kernel
theorem dX6_layOut_212 : decode cX6_layOut 212 = .ok (.goto 4, 3) := by decide +kernel
theorem dX6_layOut_215 : decode cX6_layOut 215 = .ok (.iconst 0, 1) := by decide +kernel
theorem dX6_layOut_216 : decode cX6_layOut 216 = .ok (.putfield 89, 3) := by decide +kernel
theorem dX6_layOut_219 : decode cX6_layOut 219 = .ok (.iload_n 1, 1) := by decide +kernel
theorem dX6_layOut_220 : decode cX6_layOut 220 = .ok (.ifCond .ne 13, 3) := by decide +kernel
theorem dX6_layOut_223 : decode cX6_layOut 223 = .ok (.aload_n 0, 1) := by decide +kernel
theorem dX6_layOut_224 : decode cX6_layOut 224 = .ok (.getfield 29, 3) := by decide +kernel
theorem dX6_layOut_227 : decode cX6_layOut 227 = .ok (.iload 4, 2) := by decide +kernel
theorem dX6_layOut_229 : decode cX6_layOut 229 = .ok (.baload, 1) := by decide +kernel
theorem dX6_layOut_230 : decode cX6_layOut 230 = .ok (.ifCond .ne 7, 3) := by decide +kernel
theorem dX6_layOut_233 : decode cX6_layOut 233 = .ok (.iconst 1, 1) := by decide +kernel
theorem dX6_layOut_234 : decode cX6_layOut 234 = .ok (.goto 4, 3) := by decide +kernel
theorem dX6_layOut_237 : decode cX6_layOut 237 = .ok (.iconst 0, 1) := by decide +kernel
theorem dX6_layOut_238 : decode cX6_layOut 238 = .ok (.istore_n 1, 1) := by decide +kernel
theorem dX6_layOut_239 : decode cX6_layOut 239 = .ok (.aload_n 0, 1) := by decide +kernel
theorem dX6_layOut_240 : decode cX6_layOut 240 = .ok (.getfield 22, 3) := by decide +kernel
theorem dX6_layOut_243 : decode cX6_layOut 243 = .ok (.iload 4, 2) := by decide +kernel
theorem dX6_layOut_245 : decode cX6_layOut 245 = .ok (.aload_n 0, 1) := by decide +kernel
theorem dX6_layOut_246 : decode cX6_layOut 246 = .ok (.getfield 29, 3) := by decide +kernel
theorem dX6_layOut_249 : decode cX6_layOut 249 = .ok (.iload 4, 2) := by decide +kernel
theorem dX6_layOut_251 : decode cX6_layOut 251 = .ok (.baload, 1) := by decide +kernel
theorem dX6_layOut_252 : decode cX6_layOut 252 = .ok (.ifCond .eq 13, 3) := by decide +kernel
theorem dX6_layOut_255 : decode cX6_layOut 255 = .ok (.aload_n 0, 1) := by decide +kernel
theorem dX6_layOut_256 : decode cX6_layOut 256 = .ok (.getfield 22, 3) := by decide +kernel
theorem dX6_layOut_259 : decode cX6_layOut 259 = .ok (.iload 4, 2) := by decide +kernel
theorem dX6_layOut_261 : decode cX6_layOut 261 = .ok (.laload, 1) := by decide +kernel
theorem dX6_layOut_262 : decode cX6_layOut 262 = .ok (.goto 7, 3) := by decide +kernel
theorem dX6_layOut_265 : decode cX6_layOut 265 = .ok (.aload_n 0, 1) := by decide +kernel
theorem dX6_layOut_266 : decode cX6_layOut 266 = .ok (.getfield 82, 3) := by decide +kernel
theorem dX6_layOut_269 : decode cX6_layOut 269 = .ok (.lastore, 1) := by decide +kernel
theorem dX6_layOut_270 : decode cX6_layOut 270 = .ok (.aload_n 0, 1) := by decide +kernel
theorem dX6_layOut_271 : decode cX6_layOut 271 = .ok (.getfield 26, 3) := by decide +kernel
theorem dX6_layOut_274 : decode cX6_layOut 274 = .ok (.iload 4, 2) := by decide +kernel
theorem dX6_layOut_276 : decode cX6_layOut 276 = .ok (.aload_n 0, 1) := by decide +kernel
theorem dX6_layOut_277 : decode cX6_layOut 277 = .ok (.getfield 29, 3) := by decide +kernel
