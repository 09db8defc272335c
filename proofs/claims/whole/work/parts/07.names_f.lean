theorem dX6_ifPut_51 : decode cX6_ifPut 51 = .ok (.invokevirtual 111, 3) := by decide +kernel
theorem dX6_ifPut_54 : decode cX6_ifPut 54 = .ok (.ifCond .eq 15, 3) := by decide +kernel
theorem dX6_ifPut_57 : decode cX6_ifPut 57 = .ok (.aload_n 0, 1) := by decide +kernel
theorem dX6_ifPut_58 : decode cX6_ifPut 58 = .ok (.iload_n 1, 1) := by decide +kernel
theorem dX6_ifPut_59 : decode cX6_ifPut 59 = .ok (.iload_n 2, 1) := by decide +kernel
theorem dX6_ifPut_60 : decode cX6_ifPut 60 = .ok (.iload_n 3, 1) := by decide +kernel
theorem dX6_ifPut_61 : decode cX6_ifPut 61 = .ok (.iload 4, 2) := by decide +kernel
theorem dX6_ifPut_63 : decode cX6_ifPut 63 = .ok (.invokevirtual 234, 3) := by decide +kernel
theorem dX6_ifPut_66 : decode cX6_ifPut 66 = .ok (.goto 4, 3) := by decide +kernel
theorem dX6_ifPut_69 : decode cX6_ifPut 69 = .ok (.iconst 0, 1) := by decide +kernel
theorem dX6_ifPut_70 : decode cX6_ifPut 70 = .ok (.ireturn, 1) := by decide +kernel
set_option maxRecDepth 20000 in
theorem ggX6_solves_X6_layOut : GoodIn wsX6_solves wsX6_layOut := goodIn_r _ [6, 7, 8, 1, 9, 10, 11, 12, 13, 14, 15, 5, 16, 17, 18, 19, 20, 21, 22, 23, 24, 25, 26, 27, 28, 29, 30, 31, 32, 33, 34, 35, 36, 37, 38, 39, 40, 41, 42, 43, 76, 77, 78, 79, 80, 81, 82, 83, 84, 85, 86, 87, 88, 89, 90, 91, 92, 93, 94, 95, 96] (by decide +kernel) (by decide +kernel)
set_option maxRecDepth 20000 in
theorem gX6_solves_X6_layOut : GoodIn wsX6_solves (wsV RX6 156 RX6 yX6_layOut wsX6_layOut) := goodIn_app (goodIn_of _ (by decide +kernel)) ggX6_solves_X6_layOut
set_option maxRecDepth 20000 in
theorem ggX6_solves_X6_isReached : GoodIn wsX6_solves wsX6_isReached := goodIn_r _ [47, 1, 9, 10, 76, 77, 78, 79, 80, 81, 82, 83, 84, 85, 86, 87, 88, 89, 90, 91, 92, 93, 94, 95, 96] (by decide +kernel) (by decide +kernel)
set_option maxRecDepth 20000 in
theorem gX6_solves_X6_isReached : GoodIn wsX6_solves (wsV RX6 159 RX6 yX6_isReached wsX6_isReached) := goodIn_app (goodIn_of _ (by decide +kernel)) ggX6_solves_X6_isReached
set_option maxRecDepth 20000 in
theorem ggX6_solves_X6_putFault : GoodIn wsX6_solves wsX6_putFault := goodIn_r _ [51, 52, 53, 54, 5, 55, 1, 56, 57, 58, 21, 22, 23, 24, 29, 30, 31, 32, 59, 60, 61, 62, 63, 64, 65, 66, 17, 18, 19, 20, 25, 26, 27, 28, 33, 34, 35, 76, 77, 78, 79, 80, 81, 82, 83, 84, 85, 86, 87, 88, 89, 90, 91, 92, 93, 94, 95, 96] (by decide +kernel) (by decide +kernel)
set_option maxRecDepth 20000 in
theorem gX6_solves_X6_putFault : GoodIn wsX6_solves (wsV RX6 130 RX6 yX6_putFault wsX6_putFault) := goodIn_app (goodIn_of _ (by decide +kernel)) ggX6_solves_X6_putFault
set_option maxRecDepth 20000 in
theorem ggX6_solves_X6_putAside : GoodIn wsX6_solves wsX6_putAside := goodIn_r _ [70, 71, 1, 76, 77, 78, 79, 80, 81, 82, 83, 84, 85, 86, 87, 88, 89, 90, 91, 92, 93, 94, 95, 96] (by decide +kernel) (by decide +kernel)
set_option maxRecDepth 20000 in
theorem gX6_solves_X6_putAside : GoodIn wsX6_solves (wsV RX6 228 RX6 yX6_putAside wsX6_putAside) := goodIn_app (goodIn_of _ (by decide +kernel)) ggX6_solves_X6_putAside
set_option maxRecDepth 20000 in
theorem ggX6_solves_X6_put : GoodIn wsX6_solves wsX6_put := goodIn_r _ [62, 1, 76, 77, 78, 79, 80, 81, 82, 83, 84, 85, 86, 87, 88, 89, 90, 91, 92, 93, 94, 95, 96] (by decide +kernel) (by decide +kernel)
set_option maxRecDepth 20000 in
theorem gX6_solves_X6_put : GoodIn wsX6_solves (wsV RX6 104 RX6 yX6_put wsX6_put) := goodIn_app (goodIn_of _ (by decide +kernel)) ggX6_solves_X6_put
set_option maxRecDepth 20000 in
theorem ggX6_solves_X6_putBack : GoodIn wsX6_solves wsX6_putBack := goodIn_r _ [75, 1, 71, 76, 77, 78, 79, 80, 81, 82, 83, 84, 85, 86, 87, 88, 89, 90, 91, 92, 93, 94, 95, 96] (by decide +kernel) (by decide +kernel)
set_option maxRecDepth 20000 in
theorem gX6_solves_X6_putBack : GoodIn wsX6_solves (wsV RX6 231 RX6 yX6_putBack wsX6_putBack) := goodIn_app (goodIn_of _ (by decide +kernel)) ggX6_solves_X6_putBack
theorem dX6_solves_0 : decode cX6_solves 0 = .ok (.aload_n 0, 1) := by decide +kernel
theorem dX6_solves_1 : decode cX6_solves 1 = .ok (.invokevirtual 156, 3) := by decide +kernel
theorem dX6_solves_4 : decode cX6_solves 4 = .ok (.aload_n 0, 1) := by decide +kernel
theorem dX6_solves_5 : decode cX6_solves 5 = .ok (.getfield 7, 3) := by decide +kernel
theorem dX6_solves_8 : decode cX6_solves 8 = .ok (.bipush 56, 2) := by decide +kernel
theorem dX6_solves_10 : decode cX6_solves 10 = .ok (.iaload, 1) := by decide +kernel
theorem dX6_solves_11 : decode cX6_solves 11 = .ok (.iconst (-1), 1) := by decide +kernel
theorem dX6_solves_12 : decode cX6_solves 12 = .ok (.if_icmp .eq 10, 3) := by decide +kernel
theorem dX6_solves_15 : decode cX6_solves 15 = .ok (.aload_n 0, 1) := by decide +kernel
theorem dX6_solves_16 : decode cX6_solves 16 = .ok (.invokevirtual 159, 3) := by decide +kernel
theorem dX6_solves_19 : decode cX6_solves 19 = .ok (.ifCond .eq 5, 3) := by decide +kernel
theorem dX6_solves_22 : decode cX6_solves 22 = .ok (.iconst (-1), 1) := by decide +kernel
theorem dX6_solves_23 : decode cX6_solves 23 = .ok (.ireturn, 1) := by decide +kernel
theorem dX6_solves_24 : decode cX6_solves 24 = .ok (.iconst 0, 1) := by decide +kernel
theorem dX6_solves_25 : decode cX6_solves 25 = .ok (.istore_n 1, 1) := by decide +kernel
theorem dX6_solves_26 : decode cX6_solves 26 = .ok (.iload_n 1, 1) := by decide +kernel
theorem dX6_solves_27 : decode cX6_solves 27 = .ok (.bipush 42, 2) := by decide +kernel
theorem dX6_solves_29 : decode cX6_solves 29 = .ok (.aload_n 0, 1) := by decide +kernel
theorem dX6_solves_30 : decode cX6_solves 30 = .ok (.getfield 7, 3) := by decide +kernel
theorem dX6_solves_33 : decode cX6_solves 33 = .ok (.iconst 0, 1) := by decide +kernel
theorem dX6_solves_34 : decode cX6_solves 34 = .ok (.iaload, 1) := by decide +kernel
theorem dX6_solves_35 : decode cX6_solves 35 = .ok (.imul, 1) := by decide +kernel
theorem dX6_solves_36 : decode cX6_solves 36 = .ok (.if_icmp .ge 84, 3) := by decide +kernel
theorem dX6_solves_39 : decode cX6_solves 39 = .ok (.iload_n 1, 1) := by decide +kernel
theorem dX6_solves_40 : decode cX6_solves 40 = .ok (.bipush 42, 2) := by decide +kernel
theorem dX6_solves_42 : decode cX6_solves 42 = .ok (.idiv, 1) := by decide +kernel
theorem dX6_solves_43 : decode cX6_solves 43 = .ok (.istore_n 2, 1) := by decide +kernel
theorem dX6_solves_44 : decode cX6_solves 44 = .ok (.iload_n 1, 1) := by decide +kernel
theorem dX6_solves_45 : decode cX6_solves 45 = .ok (.bipush 21, 2) := by decide +kernel
theorem dX6_solves_47 : decode cX6_solves 47 = .ok (.idiv, 1) := by decide +kernel
theorem dX6_solves_48 : decode cX6_solves 48 = .ok (.iconst 2, 1) := by decide +kernel
theorem dX6_solves_49 : decode cX6_solves 49 = .ok (.irem, 1) := by decide +kernel
theorem dX6_solves_50 : decode cX6_solves 50 = .ok (.istore_n 3, 1) := by decide +kernel
theorem dX6_solves_51 : decode cX6_solves 51 = .ok (.iload_n 1, 1) := by decide +kernel
theorem dX6_solves_52 : decode cX6_solves 52 = .ok (.bipush 21, 2) := by decide +kernel
theorem dX6_solves_54 : decode cX6_solves 54 = .ok (.irem, 1) := by decide +kernel
theorem dX6_solves_55 : decode cX6_solves 55 = .ok (.istore 4, 2) := by decide +kernel
theorem dX6_solves_57 : decode cX6_solves 57 = .ok (.aload_n 0, 1) := by decide +kernel
theorem dX6_solves_58 : decode cX6_solves 58 = .ok (.iload_n 2, 1) := by decide +kernel
theorem dX6_solves_59 : decode cX6_solves 59 = .ok (.iload_n 3, 1) := by decide +kernel
theorem dX6_solves_60 : decode cX6_solves 60 = .ok (.iconst 1, 1) := by decide +kernel
theorem dX6_solves_61 : decode cX6_solves 61 = .ok (.iload 4, 2) := by decide +kernel
theorem dX6_solves_63 : decode cX6_solves 63 = .ok (.invokevirtual 130, 3) := by decide +kernel
theorem dX6_solves_66 : decode cX6_solves 66 = .ok (.ifCond .ne 48, 3) := by decide +kernel
theorem dX6_solves_69 : decode cX6_solves 69 = .ok (.aload_n 0, 1) := by decide +kernel
theorem dX6_solves_70 : decode cX6_solves 70 = .ok (.invokevirtual 228, 3) := by decide +kernel
theorem dX6_solves_73 : decode cX6_solves 73 = .ok (.aload_n 0, 1) := by decide +kernel
theorem dX6_solves_74 : decode cX6_solves 74 = .ok (.iload_n 2, 1) := by decide +kernel
theorem dX6_solves_75 : decode cX6_solves 75 = .ok (.iload_n 3, 1) := by decide +kernel
theorem dX6_solves_76 : decode cX6_solves 76 = .ok (.iconst 1, 1) := by decide +kernel
theorem dX6_solves_77 : decode cX6_solves 77 = .ok (.iload 4, 2) := by decide +kernel
theorem dX6_solves_79 : decode cX6_solves 79 = .ok (.invokevirtual 104, 3) := by decide +kernel
theorem dX6_solves_82 : decode cX6_solves 82 = .ok (.aload_n 0, 1) := by decide +kernel
theorem dX6_solves_83 : decode cX6_solves 83 = .ok (.invokevirtual 156, 3) := by decide +kernel
theorem dX6_solves_86 : decode cX6_solves 86 = .ok (.aload_n 0, 1) := by decide +kernel
theorem dX6_solves_87 : decode cX6_solves 87 = .ok (.invokevirtual 159, 3) := by decide +kernel
theorem dX6_solves_90 : decode cX6_solves 90 = .ok (.istore 5, 2) := by decide +kernel
theorem dX6_solves_92 : decode cX6_solves 92 = .ok (.aload_n 0, 1) := by decide +kernel
theorem dX6_solves_93 : decode cX6_solves 93 = .ok (.invokevirtual 231, 3) := by decide +kernel
theorem dX6_solves_96 : decode cX6_solves 96 = .ok (.iload 5, 2) := by decide +kernel
theorem dX6_solves_98 : decode cX6_solves 98 = .ok (.ifCond .eq 16, 3) := by decide +kernel
theorem dX6_solves_101 : decode cX6_solves 101 = .ok (.bipush 100, 2) := by decide +kernel
theorem dX6_solves_103 : decode cX6_solves 103 = .ok (.iload_n 2, 1) := by decide +kernel
theorem dX6_solves_104 : decode cX6_solves 104 = .ok (.imul, 1) := by decide +kernel
theorem dX6_solves_105 : decode cX6_solves 105 = .ok (.bipush 50, 2) := by decide +kernel
theorem dX6_solves_107 : decode cX6_solves 107 = .ok (.iload_n 3, 1) := by decide +kernel
theorem dX6_solves_108 : decode cX6_solves 108 = .ok (.imul, 1) := by decide +kernel
theorem dX6_solves_109 : decode cX6_solves 109 = .ok (.iadd, 1) := by decide +kernel
theorem dX6_solves_110 : decode cX6_solves 110 = .ok (.iload 4, 2) := by decide +kernel
theorem dX6_solves_112 : decode cX6_solves 112 = .ok (.iadd, 1) := by decide +kernel
theorem dX6_solves_113 : decode cX6_solves 113 = .ok (.ireturn, 1) := by decide +kernel
theorem dX6_solves_114 : decode cX6_solves 114 = .ok (.iinc 1 1, 3) := by decide +kernel
theorem dX6_solves_117 : decode cX6_solves 117 = .ok (.goto (-91), 3) := by decide +kernel
theorem dX6_solves_120 : decode cX6_solves 120 = .ok (.iconst (-1), 1) := by decide +kernel
theorem dX6_solves_121 : decode cX6_solves 121 = .ok (.ireturn, 1) := by decide +kernel
set_option maxRecDepth 20000 in
theorem ggX6_solutionOf_X6_solves : GoodIn wsX6_solutionOf wsX6_solves := goodIn_r _ [5, 6, 7, 8, 9, 4, 10, 11, 12, 13, 14, 15, 16, 17, 18, 19, 20, 21, 22, 23, 24, 25, 26, 27, 28, 29, 30, 31, 32, 33, 34, 35, 36, 37, 38, 39, 40, 41, 42, 43, 44, 45, 46, 47, 48, 49, 50, 51, 52, 53, 54, 55, 56, 57, 58, 59, 60, 61, 62, 63, 64, 65, 66, 67, 68, 69, 70, 71, 72, 73, 74, 75, 76, 77, 78, 79, 80, 81, 82, 83, 84, 85, 86, 87, 88, 89, 90, 91, 92, 93, 94, 95, 96, 97, 98, 99, 100] (by decide +kernel) (by decide +kernel)
set_option maxRecDepth 20000 in
theorem gX6_solutionOf_X6_solves : GoodIn wsX6_solutionOf (wsV RX6 237 RX6 yX6_solves wsX6_solves) := goodIn_app (goodIn_of _ (by decide +kernel)) ggX6_solutionOf_X6_solves
theorem dX6_solutionOf_0 : decode cX6_solutionOf 0 = .ok (.aload_n 0, 1) := by decide +kernel
theorem dX6_solutionOf_1 : decode cX6_solutionOf 1 = .ok (.invokevirtual 237, 3) := by decide +kernel
theorem dX6_solutionOf_4 : decode cX6_solutionOf 4 = .ok (.istore_n 2, 1) := by decide +kernel
theorem dX6_solutionOf_5 : decode cX6_solutionOf 5 = .ok (.iload_n 2, 1) := by decide +kernel
theorem dX6_solutionOf_6 : decode cX6_solutionOf 6 = .ok (.iconst (-1), 1) := by decide +kernel
theorem dX6_solutionOf_7 : decode cX6_solutionOf 7 = .ok (.if_icmp .ne 7, 3) := by decide +kernel
theorem dX6_solutionOf_10 : decode cX6_solutionOf 10 = .ok (.iconst (-1), 1) := by decide +kernel
theorem dX6_solutionOf_11 : decode cX6_solutionOf 11 = .ok (.goto 32, 3) := by decide +kernel
theorem dX6_solutionOf_14 : decode cX6_solutionOf 14 = .ok (.iload_n 1, 1) := by decide +kernel
theorem dX6_solutionOf_15 : decode cX6_solutionOf 15 = .ok (.ifCond .ne 10, 3) := by decide +kernel
theorem dX6_solutionOf_18 : decode cX6_solutionOf 18 = .ok (.iload_n 2, 1) := by decide +kernel
theorem dX6_solutionOf_19 : decode cX6_solutionOf 19 = .ok (.bipush 100, 2) := by decide +kernel
theorem dX6_solutionOf_21 : decode cX6_solutionOf 21 = .ok (.idiv, 1) := by decide +kernel
theorem dX6_solutionOf_22 : decode cX6_solutionOf 22 = .ok (.goto 21, 3) := by decide +kernel
theorem dX6_solutionOf_25 : decode cX6_solutionOf 25 = .ok (.iload_n 1, 1) := by decide +kernel
theorem dX6_solutionOf_26 : decode cX6_solutionOf 26 = .ok (.iconst 1, 1) := by decide +kernel
theorem dX6_solutionOf_27 : decode cX6_solutionOf 27 = .ok (.if_icmp .ne 12, 3) := by decide +kernel
theorem dX6_solutionOf_30 : decode cX6_solutionOf 30 = .ok (.iload_n 2, 1) := by decide +kernel
theorem dX6_solutionOf_31 : decode cX6_solutionOf 31 = .ok (.bipush 50, 2) := by decide +kernel
theorem dX6_solutionOf_33 : decode cX6_solutionOf 33 = .ok (.idiv, 1) := by decide +kernel
theorem dX6_solutionOf_34 : decode cX6_solutionOf 34 = .ok (.iconst 2, 1) := by decide +kernel
theorem dX6_solutionOf_35 : decode cX6_solutionOf 35 = .ok (.irem, 1) := by decide +kernel
theorem dX6_solutionOf_36 : decode cX6_solutionOf 36 = .ok (.goto 7, 3) := by decide +kernel
theorem dX6_solutionOf_39 : decode cX6_solutionOf 39 = .ok (.iload_n 2, 1) := by decide +kernel
theorem dX6_solutionOf_40 : decode cX6_solutionOf 40 = .ok (.bipush 50, 2) := by decide +kernel
theorem dX6_solutionOf_42 : decode cX6_solutionOf 42 = .ok (.irem, 1) := by decide +kernel
theorem dX6_solutionOf_43 : decode cX6_solutionOf 43 = .ok (.ireturn, 1) := by decide +kernel
set_option maxRecDepth 20000 in
theorem ggX6_solution_X6_in : GoodIn wsX6_solution wsX6_in := goodIn_r _ [4] (by decide +kernel) (by decide +kernel)
set_option maxRecDepth 20000 in
theorem gX6_solution_X6_in : GoodIn wsX6_solution (va_wsS RX6 46 yX6_in wsX6_in) := goodIn_app (goodIn_of _ (by decide +kernel)) ggX6_solution_X6_in
set_option maxRecDepth 20000 in
theorem ggX6_solution_X6_holds : GoodIn wsX6_solution wsX6_holds := goodIn_r _ [8, 9, 89, 90, 91, 92, 93, 94, 95, 96, 97, 98, 99, 100, 101, 102, 103, 104, 105, 106, 107, 108, 109] (by decide +kernel) (by decide +kernel)
set_option maxRecDepth 20000 in
theorem gX6_solution_X6_holds : GoodIn wsX6_solution (wsV RX6 111 RX6 yX6_holds wsX6_holds) := goodIn_app (goodIn_of _ (by decide +kernel)) ggX6_solution_X6_holds
set_option maxRecDepth 20000 in
theorem ggX6_solution_X6_solutionOf : GoodIn wsX6_solution wsX6_solutionOf := goodIn_r _ [13, 14, 15, 16, 3, 17, 18, 19, 20, 21, 22, 23, 24, 25, 26, 27, 28, 29, 30, 31, 32, 33, 34, 35, 36, 37, 38, 39, 40, 41, 42, 43, 44, 45, 46, 47, 48, 49, 50, 51, 52, 53, 54, 55, 56, 57, 58, 59, 60, 61, 62, 63, 64, 65, 66, 67, 68, 69, 70, 71, 1, 2, 4, 72, 73, 74, 75, 76, 77, 78, 79, 80, 81, 82, 83, 84, 85, 86, 87, 88, 89, 90, 91, 92, 93, 94, 95, 96, 97, 98, 99, 100, 101, 102, 103, 104, 105, 106, 107, 108, 109] (by decide +kernel) (by decide +kernel)
set_option maxRecDepth 20000 in
theorem gX6_solution_X6_solutionOf : GoodIn wsX6_solution (wsV RX6 240 RX6 yX6_solutionOf wsX6_solutionOf) := goodIn_app (goodIn_of _ (by decide +kernel)) ggX6_solution_X6_solutionOf
theorem dX6_solution_0 : decode cX6_solution 0 = .ok (.aload_n 0, 1) := by decide +kernel
theorem dX6_solution_1 : decode cX6_solution 1 = .ok (.iload_n 1, 1) := by decide +kernel
theorem dX6_solution_2 : decode cX6_solution 2 = .ok (.iconst 0, 1) := by decide +kernel
theorem dX6_solution_3 : decode cX6_solution 3 = .ok (.iconst 2, 1) := by decide +kernel
theorem dX6_solution_4 : decode cX6_solution 4 = .ok (.invokestatic 46, 3) := by decide +kernel
theorem dX6_solution_7 : decode cX6_solution 7 = .ok (.ifCond .eq 7, 3) := by decide +kernel
theorem dX6_solution_10 : decode cX6_solution 10 = .ok (.iconst 0, 1) := by decide +kernel
theorem dX6_solution_11 : decode cX6_solution 11 = .ok (.goto 4, 3) := by decide +kernel
theorem dX6_solution_14 : decode cX6_solution 14 = .ok (.iconst 1, 1) := by decide +kernel
theorem dX6_solution_15 : decode cX6_solution 15 = .ok (.invokevirtual 111, 3) := by decide +kernel
theorem dX6_solution_18 : decode cX6_solution 18 = .ok (.ifCond .eq 11, 3) := by decide +kernel
theorem dX6_solution_21 : decode cX6_solution 21 = .ok (.aload_n 0, 1) := by decide +kernel
theorem dX6_solution_22 : decode cX6_solution 22 = .ok (.iload_n 1, 1) := by decide +kernel
theorem dX6_solution_23 : decode cX6_solution 23 = .ok (.invokevirtual 240, 3) := by decide +kernel
theorem dX6_solution_26 : decode cX6_solution 26 = .ok (.goto 4, 3) := by decide +kernel
theorem dX6_solution_29 : decode cX6_solution 29 = .ok (.iconst 0, 1) := by decide +kernel
theorem dX6_solution_30 : decode cX6_solution 30 = .ok (.ireturn, 1) := by decide +kernel
set_option maxRecDepth 20000 in
theorem ggX6_frees_X6_layOut : GoodIn wsX6_frees wsX6_layOut := goodIn_r _ [7, 1, 8, 2, 9, 10, 11, 12, 13, 14, 15, 6, 16, 17, 18, 19, 20, 21, 22, 23, 24, 25, 26, 27, 28, 29, 30, 31, 32, 33, 34, 35, 36, 37, 38, 39, 40, 41, 42, 43, 61, 62, 63, 64, 65, 66, 67, 68, 69, 70, 71, 72, 73, 74, 75, 76, 77, 78, 79, 80, 81] (by decide +kernel) (by decide +kernel)
set_option maxRecDepth 20000 in
theorem gX6_frees_X6_layOut : GoodIn wsX6_frees (wsV RX6 156 RX6 yX6_layOut wsX6_layOut) := goodIn_app (goodIn_of _ (by decide +kernel)) ggX6_frees_X6_layOut
set_option maxRecDepth 20000 in
theorem ggX6_frees_X6_putAside : GoodIn wsX6_frees wsX6_putAside := goodIn_r _ [47, 48, 2, 61, 62, 63, 64, 65, 66, 67, 68, 69, 70, 71, 72, 73, 74, 75, 76, 77, 78, 79, 80, 81] (by decide +kernel) (by decide +kernel)
set_option maxRecDepth 20000 in
theorem gX6_frees_X6_putAside : GoodIn wsX6_frees (wsV RX6 228 RX6 yX6_putAside wsX6_putAside) := goodIn_app (goodIn_of _ (by decide +kernel)) ggX6_frees_X6_putAside
set_option maxRecDepth 20000 in
theorem ggX6_frees_X6_put : GoodIn wsX6_frees wsX6_put := goodIn_r _ [52, 2, 61, 62, 63, 64, 65, 66, 67, 68, 69, 70, 71, 72, 73, 74, 75, 76, 77, 78, 79, 80, 81] (by decide +kernel) (by decide +kernel)
set_option maxRecDepth 20000 in
theorem gX6_frees_X6_put : GoodIn wsX6_frees (wsV RX6 104 RX6 yX6_put wsX6_put) := goodIn_app (goodIn_of _ (by decide +kernel)) ggX6_frees_X6_put
set_option maxRecDepth 20000 in
theorem ggX6_frees_X6_joined : GoodIn wsX6_frees wsX6_joined := goodIn_r _ [56, 8, 61, 62, 63, 64, 65, 66, 67, 68, 69, 70, 71, 72, 73, 74, 75, 76, 77, 78, 79, 80, 81] (by decide +kernel) (by decide +kernel)
set_option maxRecDepth 20000 in
theorem gX6_frees_X6_joined : GoodIn wsX6_frees (wsV RX6 222 RX6 yX6_joined wsX6_joined) := goodIn_app (goodIn_of _ (by decide +kernel)) ggX6_frees_X6_joined
set_option maxRecDepth 20000 in
theorem ggX6_frees_X6_putBack : GoodIn wsX6_frees wsX6_putBack := goodIn_r _ [60, 2, 48, 61, 62, 63, 64, 65, 66, 67, 68, 69, 70, 71, 72, 73, 74, 75, 76, 77, 78, 79, 80, 81] (by decide +kernel) (by decide +kernel)
set_option maxRecDepth 20000 in
theorem gX6_frees_X6_putBack : GoodIn wsX6_frees (wsV RX6 231 RX6 yX6_putBack wsX6_putBack) := goodIn_app (goodIn_of _ (by decide +kernel)) ggX6_frees_X6_putBack
theorem dX6_frees_0 : decode cX6_frees 0 = .ok (.aload_n 0, 1) := by decide +kernel
theorem dX6_frees_1 : decode cX6_frees 1 = .ok (.invokevirtual 156, 3) := by decide +kernel
theorem dX6_frees_4 : decode cX6_frees 4 = .ok (.aload_n 0, 1) := by decide +kernel
theorem dX6_frees_5 : decode cX6_frees 5 = .ok (.getfield 89, 3) := by decide +kernel
theorem dX6_frees_8 : decode cX6_frees 8 = .ok (.ifCond .ne 5, 3) := by decide +kernel
theorem dX6_frees_11 : decode cX6_frees 11 = .ok (.iconst (-1), 1) := by decide +kernel
theorem dX6_frees_12 : decode cX6_frees 12 = .ok (.ireturn, 1) := by decide +kernel
theorem dX6_frees_13 : decode cX6_frees 13 = .ok (.iconst 0, 1) := by decide +kernel
theorem dX6_frees_14 : decode cX6_frees 14 = .ok (.istore_n 1, 1) := by decide +kernel
theorem dX6_frees_15 : decode cX6_frees 15 = .ok (.iload_n 1, 1) := by decide +kernel
theorem dX6_frees_16 : decode cX6_frees 16 = .ok (.aload_n 0, 1) := by decide +kernel
theorem dX6_frees_17 : decode cX6_frees 17 = .ok (.getfield 7, 3) := by decide +kernel
theorem dX6_frees_20 : decode cX6_frees 20 = .ok (.iconst 0, 1) := by decide +kernel
theorem dX6_frees_21 : decode cX6_frees 21 = .ok (.iaload, 1) := by decide +kernel
theorem dX6_frees_22 : decode cX6_frees 22 = .ok (.if_icmp .ge 75, 3) := by decide +kernel
theorem dX6_frees_25 : decode cX6_frees 25 = .ok (.iload_n 1, 1) := by decide +kernel
theorem dX6_frees_26 : decode cX6_frees 26 = .ok (.aload_n 0, 1) := by decide +kernel
theorem dX6_frees_27 : decode cX6_frees 27 = .ok (.getfield 7, 3) := by decide +kernel
theorem dX6_frees_30 : decode cX6_frees 30 = .ok (.bipush 55, 2) := by decide +kernel
theorem dX6_frees_32 : decode cX6_frees 32 = .ok (.iaload, 1) := by decide +kernel
theorem dX6_frees_33 : decode cX6_frees 33 = .ok (.if_icmp .eq 58, 3) := by decide +kernel
theorem dX6_frees_36 : decode cX6_frees 36 = .ok (.aload_n 0, 1) := by decide +kernel
theorem dX6_frees_37 : decode cX6_frees 37 = .ok (.invokevirtual 228, 3) := by decide +kernel
theorem dX6_frees_40 : decode cX6_frees 40 = .ok (.aload_n 0, 1) := by decide +kernel
theorem dX6_frees_41 : decode cX6_frees 41 = .ok (.iload_n 1, 1) := by decide +kernel
theorem dX6_frees_42 : decode cX6_frees 42 = .ok (.iconst 0, 1) := by decide +kernel
theorem dX6_frees_43 : decode cX6_frees 43 = .ok (.iconst 0, 1) := by decide +kernel
theorem dX6_frees_44 : decode cX6_frees 44 = .ok (.iconst 0, 1) := by decide +kernel
theorem dX6_frees_45 : decode cX6_frees 45 = .ok (.invokevirtual 104, 3) := by decide +kernel
theorem dX6_frees_48 : decode cX6_frees 48 = .ok (.aload_n 0, 1) := by decide +kernel
theorem dX6_frees_49 : decode cX6_frees 49 = .ok (.iload_n 1, 1) := by decide +kernel
theorem dX6_frees_50 : decode cX6_frees 50 = .ok (.iconst 1, 1) := by decide +kernel
theorem dX6_frees_51 : decode cX6_frees 51 = .ok (.iconst 0, 1) := by decide +kernel
theorem dX6_frees_52 : decode cX6_frees 52 = .ok (.iconst 0, 1) := by decide +kernel
theorem dX6_frees_53 : decode cX6_frees 53 = .ok (.invokevirtual 104, 3) := by decide +kernel
theorem dX6_frees_56 : decode cX6_frees 56 = .ok (.aload_n 0, 1) := by decide +kernel
theorem dX6_frees_57 : decode cX6_frees 57 = .ok (.invokevirtual 156, 3) := by decide +kernel
theorem dX6_frees_60 : decode cX6_frees 60 = .ok (.aload_n 0, 1) := by decide +kernel
theorem dX6_frees_61 : decode cX6_frees 61 = .ok (.getfield 89, 3) := by decide +kernel
theorem dX6_frees_64 : decode cX6_frees 64 = .ok (.ifCond .ne 15, 3) := by decide +kernel
theorem dX6_frees_67 : decode cX6_frees 67 = .ok (.aload_n 0, 1) := by decide +kernel
theorem dX6_frees_68 : decode cX6_frees 68 = .ok (.invokevirtual 222, 3) := by decide +kernel
theorem dX6_frees_71 : decode cX6_frees 71 = .ok (.iconst 1, 1) := by decide +kernel
theorem dX6_frees_72 : decode cX6_frees 72 = .ok (.if_icmp .le 7, 3) := by decide +kernel
theorem dX6_frees_75 : decode cX6_frees 75 = .ok (.iconst 1, 1) := by decide +kernel
theorem dX6_frees_76 : decode cX6_frees 76 = .ok (.goto 4, 3) := by decide +kernel
theorem dX6_frees_79 : decode cX6_frees 79 = .ok (.iconst 0, 1) := by decide +kernel
theorem dX6_frees_80 : decode cX6_frees 80 = .ok (.istore_n 2, 1) := by decide +kernel
theorem dX6_frees_81 : decode cX6_frees 81 = .ok (.aload_n 0, 1) := by decide +kernel
theorem dX6_frees_82 : decode cX6_frees 82 = .ok (.invokevirtual 231, 3) := by decide +kernel
theorem dX6_frees_85 : decode cX6_frees 85 = .ok (.iload_n 2, 1) := by decide +kernel
theorem dX6_frees_86 : decode cX6_frees 86 = .ok (.ifCond .eq 5, 3) := by decide +kernel
theorem dX6_frees_89 : decode cX6_frees 89 = .ok (.iload_n 1, 1) := by decide +kernel
theorem dX6_frees_90 : decode cX6_frees 90 = .ok (.ireturn, 1) := by decide +kernel
theorem dX6_frees_91 : decode cX6_frees 91 = .ok (.iinc 1 1, 3) := by decide +kernel
theorem dX6_frees_94 : decode cX6_frees 94 = .ok (.goto (-79), 3) := by decide +kernel
theorem dX6_frees_97 : decode cX6_frees 97 = .ok (.iconst (-1), 1) := by decide +kernel
theorem dX6_frees_98 : decode cX6_frees 98 = .ok (.ireturn, 1) := by decide +kernel
set_option maxRecDepth 20000 in
theorem ggX6_culprit_X6_frees : GoodIn wsX6_culprit wsX6_frees := goodIn_r _ [6, 7, 8, 9, 10, 11, 5, 12, 13, 14, 15, 16, 17, 18, 19, 20, 21, 22, 23, 24, 25, 26, 27, 28, 29, 30, 31, 32, 33, 34, 35, 36, 37, 38, 39, 40, 41, 42, 43, 44, 45, 46, 47, 48, 49, 50, 51, 52, 53, 54, 55, 56, 57, 58, 59, 60, 61, 62, 63, 64, 65, 66, 67, 68, 69, 70, 71, 72, 73, 74, 75, 76, 77, 78, 79, 80, 81, 82, 83, 84, 85, 86] (by decide +kernel) (by decide +kernel)
set_option maxRecDepth 20000 in
theorem gX6_culprit_X6_frees : GoodIn wsX6_culprit (wsV RX6 243 RX6 yX6_frees wsX6_frees) := goodIn_app (goodIn_of _ (by decide +kernel)) ggX6_culprit_X6_frees
theorem dX6_culprit_0 : decode cX6_culprit 0 = .ok (.aload_n 0, 1) := by decide +kernel
theorem dX6_culprit_1 : decode cX6_culprit 1 = .ok (.iconst 0, 1) := by decide +kernel
theorem dX6_culprit_2 : decode cX6_culprit 2 = .ok (.putfield 42, 3) := by decide +kernel
theorem dX6_culprit_5 : decode cX6_culprit 5 = .ok (.aload_n 0, 1) := by decide +kernel
theorem dX6_culprit_6 : decode cX6_culprit 6 = .ok (.invokevirtual 243, 3) := by decide +kernel
theorem dX6_culprit_9 : decode cX6_culprit 9 = .ok (.ireturn, 1) := by decide +kernel
theorem dX6_share_0 : decode cX6_share 0 = .ok (.iconst 0, 1) := by decide +kernel
theorem dX6_share_1 : decode cX6_share 1 = .ok (.istore_n 1, 1) := by decide +kernel
theorem dX6_share_2 : decode cX6_share 2 = .ok (.iconst 0, 1) := by decide +kernel
theorem dX6_share_3 : decode cX6_share 3 = .ok (.istore_n 2, 1) := by decide +kernel
theorem dX6_share_4 : decode cX6_share 4 = .ok (.iload_n 2, 1) := by decide +kernel
theorem dX6_share_5 : decode cX6_share 5 = .ok (.aload_n 0, 1) := by decide +kernel
theorem dX6_share_6 : decode cX6_share 6 = .ok (.getfield 7, 3) := by decide +kernel
theorem dX6_share_9 : decode cX6_share 9 = .ok (.iconst 0, 1) := by decide +kernel
theorem dX6_share_10 : decode cX6_share 10 = .ok (.iaload, 1) := by decide +kernel
theorem dX6_share_11 : decode cX6_share 11 = .ok (.if_icmp .ge 28, 3) := by decide +kernel
theorem dX6_share_14 : decode cX6_share 14 = .ok (.iload_n 1, 1) := by decide +kernel
theorem dX6_share_15 : decode cX6_share 15 = .ok (.aload_n 0, 1) := by decide +kernel
theorem dX6_share_16 : decode cX6_share 16 = .ok (.getfield 22, 3) := by decide +kernel
theorem dX6_share_19 : decode cX6_share 19 = .ok (.iload_n 2, 1) := by decide +kernel
theorem dX6_share_20 : decode cX6_share 20 = .ok (.laload, 1) := by decide +kernel
theorem dX6_share_21 : decode cX6_share 21 = .ok (.lconst 0, 1) := by decide +kernel
theorem dX6_share_22 : decode cX6_share 22 = .ok (.lcmp, 1) := by decide +kernel
theorem dX6_share_23 : decode cX6_share 23 = .ok (.ifCond .ne 7, 3) := by decide +kernel
theorem dX6_share_26 : decode cX6_share 26 = .ok (.iconst 0, 1) := by decide +kernel
theorem dX6_share_27 : decode cX6_share 27 = .ok (.goto 4, 3) := by decide +kernel
theorem dX6_share_30 : decode cX6_share 30 = .ok (.iconst 1, 1) := by decide +kernel
theorem dX6_share_31 : decode cX6_share 31 = .ok (.iadd, 1) := by decide +kernel
theorem dX6_share_32 : decode cX6_share 32 = .ok (.istore_n 1, 1) := by decide +kernel
theorem dX6_share_33 : decode cX6_share 33 = .ok (.iinc 2 1, 3) := by decide +kernel
theorem dX6_share_36 : decode cX6_share 36 = .ok (.goto (-32), 3) := by decide +kernel
theorem dX6_share_39 : decode cX6_share 39 = .ok (.aload_n 0, 1) := by decide +kernel
theorem dX6_share_40 : decode cX6_share 40 = .ok (.getfield 7, 3) := by decide +kernel
theorem dX6_share_43 : decode cX6_share 43 = .ok (.iconst 0, 1) := by decide +kernel
theorem dX6_share_44 : decode cX6_share 44 = .ok (.iaload, 1) := by decide +kernel
theorem dX6_share_45 : decode cX6_share 45 = .ok (.ifCond .ne 7, 3) := by decide +kernel
theorem dX6_share_48 : decode cX6_share 48 = .ok (.dconst 0, 1) := by decide +kernel
theorem dX6_share_49 : decode cX6_share 49 = .ok (.goto 13, 3) := by decide +kernel
theorem dX6_share_52 : decode cX6_share 52 = .ok (.iload_n 1, 1) := by decide +kernel
theorem dX6_share_53 : decode cX6_share 53 = .ok (.i2d, 1) := by decide +kernel
theorem dX6_share_54 : decode cX6_share 54 = .ok (.aload_n 0, 1) := by decide +kernel
theorem dX6_share_55 : decode cX6_share 55 = .ok (.getfield 7, 3) := by decide +kernel
theorem dX6_share_58 : decode cX6_share 58 = .ok (.iconst 0, 1) := by decide +kernel
theorem dX6_share_59 : decode cX6_share 59 = .ok (.iaload, 1) := by decide +kernel
theorem dX6_share_60 : decode cX6_share 60 = .ok (.i2d, 1) := by decide +kernel
theorem dX6_share_61 : decode cX6_share 61 = .ok (.ddiv, 1) := by decide +kernel
theorem dX6_share_62 : decode cX6_share 62 = .ok (.dreturn, 1) := by decide +kernel
set_option maxRecDepth 20000 in
theorem ggX6_turningShare_X6_layOut : GoodIn wsX6_turningShare wsX6_layOut := goodIn_r _ [6, 7, 8, 9, 10, 11, 12, 13, 14, 15, 16, 5, 17, 18, 19, 20, 21, 22, 23, 24, 25, 26, 27, 28, 29, 30, 31, 32, 33, 34, 35, 36, 37, 38, 39, 40, 41, 42, 43, 44, 49, 50, 51, 52, 53, 54, 55, 56, 57, 58, 59, 60, 61, 62, 63, 64, 65, 66, 67, 68, 69] (by decide +kernel) (by decide +kernel)
set_option maxRecDepth 20000 in
theorem gX6_turningShare_X6_layOut : GoodIn wsX6_turningShare (wsV RX6 156 RX6 yX6_layOut wsX6_layOut) := goodIn_app (goodIn_of _ (by decide +kernel)) ggX6_turningShare_X6_layOut
set_option maxRecDepth 20000 in
theorem ggX6_turningShare_X6_share : GoodIn wsX6_turningShare wsX6_share := goodIn_r _ [48, 9, 10, 49, 50, 51, 52, 53, 54, 55, 56, 57, 58, 59, 60, 61, 62, 63, 64, 65, 66, 67, 68, 69] (by decide +kernel) (by decide +kernel)
set_option maxRecDepth 20000 in
theorem gX6_turningShare_X6_share : GoodIn wsX6_turningShare (wsV RX6 246 RX6 yX6_share wsX6_share) := goodIn_app (goodIn_of _ (by decide +kernel)) ggX6_turningShare_X6_share
theorem dX6_turningShare_0 : decode cX6_turningShare 0 = .ok (.aload_n 0, 1) := by decide +kernel
theorem dX6_turningShare_1 : decode cX6_turningShare 1 = .ok (.iconst 0, 1) := by decide +kernel
theorem dX6_turningShare_2 : decode cX6_turningShare 2 = .ok (.putfield 42, 3) := by decide +kernel
theorem dX6_turningShare_5 : decode cX6_turningShare 5 = .ok (.aload_n 0, 1) := by decide +kernel
theorem dX6_turningShare_6 : decode cX6_turningShare 6 = .ok (.invokevirtual 156, 3) := by decide +kernel
theorem dX6_turningShare_9 : decode cX6_turningShare 9 = .ok (.aload_n 0, 1) := by decide +kernel
theorem dX6_turningShare_10 : decode cX6_turningShare 10 = .ok (.invokevirtual 246, 3) := by decide +kernel
theorem dX6_turningShare_13 : decode cX6_turningShare 13 = .ok (.dreturn, 1) := by decide +kernel
theorem dX6_bitsOf_0 : decode cX6_bitsOf 0 = .ok (.dload_n 0, 1) := by decide +kernel
theorem dX6_bitsOf_1 : decode cX6_bitsOf 1 = .ok (.dconst 0, 1) := by decide +kernel
theorem dX6_bitsOf_2 : decode cX6_bitsOf 2 = .ok (.dcmp .l, 1) := by decide +kernel
theorem dX6_bitsOf_3 : decode cX6_bitsOf 3 = .ok (.ifCond .ne 5, 3) := by decide +kernel
theorem dX6_bitsOf_6 : decode cX6_bitsOf 6 = .ok (.lconst 0, 1) := by decide +kernel
theorem dX6_bitsOf_7 : decode cX6_bitsOf 7 = .ok (.lreturn, 1) := by decide +kernel
theorem dX6_bitsOf_8 : decode cX6_bitsOf 8 = .ok (.ldc2_w 250, 3) := by decide +kernel
theorem dX6_bitsOf_11 : decode cX6_bitsOf 11 = .ok (.lstore_n 2, 1) := by decide +kernel
theorem dX6_bitsOf_12 : decode cX6_bitsOf 12 = .ok (.dload_n 0, 1) := by decide +kernel
theorem dX6_bitsOf_13 : decode cX6_bitsOf 13 = .ok (.dstore 4, 2) := by decide +kernel
theorem dX6_bitsOf_15 : decode cX6_bitsOf 15 = .ok (.dload 4, 2) := by decide +kernel
theorem dX6_bitsOf_17 : decode cX6_bitsOf 17 = .ok (.dconst 1, 1) := by decide +kernel
theorem dX6_bitsOf_18 : decode cX6_bitsOf 18 = .ok (.dcmp .g, 1) := by decide +kernel
theorem dX6_bitsOf_19 : decode cX6_bitsOf 19 = .ok (.ifCond .ge 18, 3) := by decide +kernel
theorem dX6_bitsOf_22 : decode cX6_bitsOf 22 = .ok (.dload 4, 2) := by decide +kernel
theorem dX6_bitsOf_24 : decode cX6_bitsOf 24 = .ok (.ldc2_w 252, 3) := by decide +kernel
theorem dX6_bitsOf_27 : decode cX6_bitsOf 27 = .ok (.dmul, 1) := by decide +kernel
theorem dX6_bitsOf_28 : decode cX6_bitsOf 28 = .ok (.dstore 4, 2) := by decide +kernel
theorem dX6_bitsOf_30 : decode cX6_bitsOf 30 = .ok (.lload_n 2, 1) := by decide +kernel
theorem dX6_bitsOf_31 : decode cX6_bitsOf 31 = .ok (.lconst 1, 1) := by decide +kernel
theorem dX6_bitsOf_32 : decode cX6_bitsOf 32 = .ok (.lsub, 1) := by decide +kernel
theorem dX6_bitsOf_33 : decode cX6_bitsOf 33 = .ok (.lstore_n 2, 1) := by decide +kernel
theorem dX6_bitsOf_34 : decode cX6_bitsOf 34 = .ok (.goto (-19), 3) := by decide +kernel
theorem dX6_bitsOf_37 : decode cX6_bitsOf 37 = .ok (.lload_n 2, 1) := by decide +kernel
theorem dX6_bitsOf_38 : decode cX6_bitsOf 38 = .ok (.ldc2_w 254, 3) := by decide +kernel
theorem dX6_bitsOf_41 : decode cX6_bitsOf 41 = .ok (.lmul, 1) := by decide +kernel
theorem dX6_bitsOf_42 : decode cX6_bitsOf 42 = .ok (.dload 4, 2) := by decide +kernel
theorem dX6_bitsOf_44 : decode cX6_bitsOf 44 = .ok (.dconst 1, 1) := by decide +kernel
theorem dX6_bitsOf_45 : decode cX6_bitsOf 45 = .ok (.dsub, 1) := by decide +kernel
theorem dX6_bitsOf_46 : decode cX6_bitsOf 46 = .ok (.ldc2_w 256, 3) := by decide +kernel
theorem dX6_bitsOf_49 : decode cX6_bitsOf 49 = .ok (.dmul, 1) := by decide +kernel
theorem dX6_bitsOf_50 : decode cX6_bitsOf 50 = .ok (.d2l, 1) := by decide +kernel
theorem dX6_bitsOf_51 : decode cX6_bitsOf 51 = .ok (.ladd, 1) := by decide +kernel
theorem dX6_bitsOf_52 : decode cX6_bitsOf 52 = .ok (.lreturn, 1) := by decide +kernel
theorem dX6_digestOne_0 : decode cX6_digestOne 0 = .ok (.aload_n 0, 1) := by decide +kernel
theorem dX6_digestOne_1 : decode cX6_digestOne 1 = .ok (.ldc2_w 258, 3) := by decide +kernel
theorem dX6_digestOne_4 : decode cX6_digestOne 4 = .ok (.aload_n 0, 1) := by decide +kernel
theorem dX6_digestOne_5 : decode cX6_digestOne 5 = .ok (.getfield 260, 3) := by decide +kernel
theorem dX6_digestOne_8 : decode cX6_digestOne 8 = .ok (.lmul, 1) := by decide +kernel
theorem dX6_digestOne_9 : decode cX6_digestOne 9 = .ok (.lload_n 1, 1) := by decide +kernel
theorem dX6_digestOne_10 : decode cX6_digestOne 10 = .ok (.ladd, 1) := by decide +kernel
theorem dX6_digestOne_11 : decode cX6_digestOne 11 = .ok (.putfield 260, 3) := by decide +kernel
theorem dX6_digestOne_14 : decode cX6_digestOne 14 = .ok (.return_, 1) := by decide +kernel
set_option maxRecDepth 20000 in
theorem ggX6_digest_X6_layOut : GoodIn wsX6_digest wsX6_layOut := goodIn_r _ [13, 14, 15, 4, 5, 6, 16, 17, 18, 19, 20, 12, 21, 22, 23, 24, 25, 26, 27, 28, 29, 30, 31, 32, 33, 34, 35, 36, 37, 38, 39, 40, 41, 42, 43, 44, 45, 46, 47, 48, 158, 159, 160, 161, 162, 163, 164, 165, 166, 167, 168, 169, 170, 171, 172, 173, 174, 175, 176, 177, 178] (by decide +kernel) (by decide +kernel)
set_option maxRecDepth 20000 in
theorem gX6_digest_X6_layOut : GoodIn wsX6_digest (wsV RX6 156 RX6 yX6_layOut wsX6_layOut) := goodIn_app (goodIn_of _ (by decide +kernel)) ggX6_digest_X6_layOut
set_option maxRecDepth 20000 in
theorem ggX6_digest_X6_counted : GoodIn wsX6_digest wsX6_counted := goodIn_r _ [52, 4, 14, 53, 54, 55, 56, 12, 57, 26, 27, 28, 29, 58, 59, 60, 61, 18, 19, 20, 21, 22, 23, 24, 25, 30, 31, 32, 33, 34, 35, 36, 37, 38, 39, 40, 62, 63, 64, 65, 15, 66, 67, 68, 69, 5, 6, 158, 159, 160, 161, 162, 163, 164, 165, 166, 167, 168, 169, 170, 171, 172, 173, 174, 175, 176, 177, 178] (by decide +kernel) (by decide +kernel)
set_option maxRecDepth 20000 in
theorem gX6_digest_X6_counted : GoodIn wsX6_digest (wsV RX6 225 RX6 yX6_counted wsX6_counted) := goodIn_app (goodIn_of _ (by decide +kernel)) ggX6_digest_X6_counted
set_option maxRecDepth 20000 in
theorem ggX6_digest_X6_digestOne : GoodIn wsX6_digest wsX6_digestOne := goodIn_r _ [73, 74, 3, 158, 159, 160, 161, 162, 163, 164, 165, 166, 167, 168, 169, 170, 171, 172, 173, 174, 175, 176, 177, 178] (by decide +kernel) (by decide +kernel)
set_option maxRecDepth 20000 in
theorem gX6_digest_X6_digestOne : GoodIn wsX6_digest (wsV RX6 265 RX6 yX6_digestOne wsX6_digestOne) := goodIn_app (goodIn_of _ (by decide +kernel)) ggX6_digest_X6_digestOne
set_option maxRecDepth 20000 in
theorem ggX6_digest_X6_pegOf : GoodIn wsX6_digest wsX6_pegOf := goodIn_r _ [78, 4, 5, 15, 34, 35, 36, 12, 37, 26, 27, 28, 29, 79, 80, 81, 82, 58, 59, 60, 61, 18, 19, 20, 21, 22, 23, 24, 25, 30, 31, 32, 33, 38, 39, 40, 158, 159, 160, 161, 162, 163, 164, 165, 166, 167, 168, 169, 170, 171, 172, 173, 174, 175, 176, 177, 178] (by decide +kernel) (by decide +kernel)
set_option maxRecDepth 20000 in
theorem gX6_digest_X6_pegOf : GoodIn wsX6_digest (wsV RX6 192 RX6 yX6_pegOf wsX6_pegOf) := goodIn_app (goodIn_of _ (by decide +kernel)) ggX6_digest_X6_pegOf
set_option maxRecDepth 20000 in
theorem ggX6_digest_X6_meshed : GoodIn wsX6_digest wsX6_meshed := goodIn_r _ [61, 18, 19, 20, 12, 21, 22, 23, 24, 25, 4, 26, 27, 28, 29, 30, 31, 32, 33, 34, 35, 36, 37, 38, 39, 40, 158, 159, 160, 161, 162, 163, 164, 165, 166, 167, 168, 169, 170, 171, 172, 173, 174, 175, 176, 177, 178] (by decide +kernel) (by decide +kernel)
set_option maxRecDepth 20000 in
theorem gX6_digest_X6_meshed : GoodIn wsX6_digest (wsV RX6 73 RX6 yX6_meshed wsX6_meshed) := goodIn_app (goodIn_of _ (by decide +kernel)) ggX6_digest_X6_meshed
set_option maxRecDepth 20000 in
theorem ggX6_digest_X6_trainOf : GoodIn wsX6_digest wsX6_trainOf := goodIn_r _ [86, 87, 88, 89, 16, 90, 91, 92, 12, 93, 94, 4, 58, 59, 60, 61, 18, 19, 20, 21, 22, 23, 24, 25, 26, 27, 28, 29, 30, 31, 32, 33, 34, 35, 36, 37, 38, 39, 40, 95, 96, 97, 98, 17, 41, 42, 43, 44, 45, 46, 47, 48, 158, 159, 160, 161, 162, 163, 164, 165, 166, 167, 168, 169, 170, 171, 172, 173, 174, 175, 176, 177, 178] (by decide +kernel) (by decide +kernel)
set_option maxRecDepth 20000 in
theorem gX6_digest_X6_trainOf : GoodIn wsX6_digest (wsV RX6 208 RX6 yX6_trainOf wsX6_trainOf) := goodIn_app (goodIn_of _ (by decide +kernel)) ggX6_digest_X6_trainOf
set_option maxRecDepth 20000 in
theorem ggX6_digest_X6_ratioOf : GoodIn wsX6_digest wsX6_ratioOf := goodIn_r _ [102, 16, 17, 90, 91, 92, 12, 93, 94, 4, 87, 89, 58, 59, 60, 61, 18, 19, 20, 21, 22, 23, 24, 25, 26, 27, 28, 29, 30, 31, 32, 33, 34, 35, 36, 37, 38, 39, 40, 95, 96, 97, 98, 88, 41, 42, 43, 44, 45, 46, 47, 48, 158, 159, 160, 161, 162, 163, 164, 165, 166, 167, 168, 169, 170, 171, 172, 173, 174, 175, 176, 177, 178] (by decide +kernel) (by decide +kernel)
set_option maxRecDepth 20000 in
theorem gX6_digest_X6_ratioOf : GoodIn wsX6_digest (wsV RX6 211 RX6 yX6_ratioOf wsX6_ratioOf) := goodIn_app (goodIn_of _ (by decide +kernel)) ggX6_digest_X6_ratioOf
set_option maxRecDepth 20000 in
theorem ggX6_digest_X6_backBehind : GoodIn wsX6_digest wsX6_backBehind := goodIn_r _ [106, 4, 14, 6, 46, 47, 12, 48, 158, 159, 160, 161, 162, 163, 164, 165, 166, 167, 168, 169, 170, 171, 172, 173, 174, 175, 176, 177, 178] (by decide +kernel) (by decide +kernel)
set_option maxRecDepth 20000 in
theorem gX6_digest_X6_backBehind : GoodIn wsX6_digest (wsV RX6 215 RX6 yX6_backBehind wsX6_backBehind) := goodIn_app (goodIn_of _ (by decide +kernel)) ggX6_digest_X6_backBehind
set_option maxRecDepth 20000 in
theorem ggX6_digest_X6_solutionOf : GoodIn wsX6_digest wsX6_solutionOf := goodIn_r _ [110, 111, 112, 113, 12, 114, 4, 9, 10, 11, 13, 14, 15, 5, 6, 16, 17, 18, 19, 20, 21, 22, 23, 24, 25, 26, 27, 28, 29, 30, 31, 32, 33, 34, 35, 36, 37, 38, 39, 40, 41, 42, 43, 44, 45, 46, 47, 48, 66, 67, 68, 69, 115, 116, 117, 118, 119, 120, 121, 122, 123, 124, 125, 126, 127, 128, 129, 130, 131, 132, 133, 134, 135, 136, 137, 138, 139, 140, 141, 142, 158, 159, 160, 161, 162, 163, 164, 165, 166, 167, 168, 169, 170, 171, 172, 173, 174, 175, 176, 177, 178] (by decide +kernel) (by decide +kernel)
set_option maxRecDepth 20000 in
theorem gX6_digest_X6_solutionOf : GoodIn wsX6_digest (wsV RX6 240 RX6 yX6_solutionOf wsX6_solutionOf) := goodIn_app (goodIn_of _ (by decide +kernel)) ggX6_digest_X6_solutionOf
set_option maxRecDepth 20000 in
theorem ggX6_digest_X6_frees : GoodIn wsX6_digest wsX6_frees := goodIn_r _ [146, 14, 4, 9, 10, 11, 12, 13, 15, 5, 6, 16, 17, 18, 19, 20, 21, 22, 23, 24, 25, 26, 27, 28, 29, 30, 31, 32, 33, 34, 35, 36, 37, 38, 39, 40, 41, 42, 43, 44, 45, 46, 47, 48, 134, 135, 136, 137, 138, 126, 127, 128, 129, 62, 63, 64, 65, 139, 140, 141, 142, 158, 159, 160, 161, 162, 163, 164, 165, 166, 167, 168, 169, 170, 171, 172, 173, 174, 175, 176, 177, 178] (by decide +kernel) (by decide +kernel)
set_option maxRecDepth 20000 in
theorem gX6_digest_X6_frees : GoodIn wsX6_digest (wsV RX6 243 RX6 yX6_frees wsX6_frees) := goodIn_app (goodIn_of _ (by decide +kernel)) ggX6_digest_X6_frees
set_option maxRecDepth 20000 in
theorem ggX6_digest_X6_share : GoodIn wsX6_digest wsX6_share := goodIn_r _ [150, 4, 5, 158, 159, 160, 161, 162, 163, 164, 165, 166, 167, 168, 169, 170, 171, 172, 173, 174, 175, 176, 177, 178] (by decide +kernel) (by decide +kernel)
set_option maxRecDepth 20000 in
theorem gX6_digest_X6_share : GoodIn wsX6_digest (wsV RX6 246 RX6 yX6_share wsX6_share) := goodIn_app (goodIn_of _ (by decide +kernel)) ggX6_digest_X6_share
set_option maxRecDepth 20000 in
theorem ggX6_digest_X6_bitsOf : GoodIn wsX6_digest wsX6_bitsOf := goodIn_r _ [153, 154, 155, 156, 157] (by decide +kernel) (by decide +kernel)
set_option maxRecDepth 20000 in
theorem gX6_digest_X6_bitsOf : GoodIn wsX6_digest (va_wsS RX6 269 yX6_bitsOf wsX6_bitsOf) := goodIn_app (goodIn_of _ (by decide +kernel)) ggX6_digest_X6_bitsOf
theorem dX6_digest_0 : decode cX6_digest 0 = .ok (.aload_n 0, 1) := by decide +kernel
theorem dX6_digest_1 : decode cX6_digest 1 = .ok (.iconst 0, 1) := by decide +kernel
theorem dX6_digest_2 : decode cX6_digest 2 = .ok (.putfield 42, 3) := by decide +kernel
theorem dX6_digest_5 : decode cX6_digest 5 = .ok (.aload_n 0, 1) := by decide +kernel
theorem dX6_digest_6 : decode cX6_digest 6 = .ok (.invokevirtual 156, 3) := by decide +kernel
theorem dX6_digest_9 : decode cX6_digest 9 = .ok (.aload_n 0, 1) := by decide +kernel
theorem dX6_digest_10 : decode cX6_digest 10 = .ok (.ldc2_w 263, 3) := by decide +kernel
theorem dX6_digest_13 : decode cX6_digest 13 = .ok (.putfield 260, 3) := by decide +kernel
theorem dX6_digest_16 : decode cX6_digest 16 = .ok (.iconst 0, 1) := by decide +kernel
theorem dX6_digest_17 : decode cX6_digest 17 = .ok (.istore_n 1, 1) := by decide +kernel
theorem dX6_digest_18 : decode cX6_digest 18 = .ok (.iload_n 1, 1) := by decide +kernel
theorem dX6_digest_19 : decode cX6_digest 19 = .ok (.bipush 11, 2) := by decide +kernel
theorem dX6_digest_21 : decode cX6_digest 21 = .ok (.if_icmp .ge 19, 3) := by decide +kernel
theorem dX6_digest_24 : decode cX6_digest 24 = .ok (.aload_n 0, 1) := by decide +kernel
theorem dX6_digest_25 : decode cX6_digest 25 = .ok (.aload_n 0, 1) := by decide +kernel
theorem dX6_digest_26 : decode cX6_digest 26 = .ok (.iload_n 1, 1) := by decide +kernel
theorem dX6_digest_27 : decode cX6_digest 27 = .ok (.invokevirtual 225, 3) := by decide +kernel
theorem dX6_digest_30 : decode cX6_digest 30 = .ok (.i2l, 1) := by decide +kernel
theorem dX6_digest_31 : decode cX6_digest 31 = .ok (.invokevirtual 265, 3) := by decide +kernel
theorem dX6_digest_34 : decode cX6_digest 34 = .ok (.iinc 1 1, 3) := by decide +kernel
theorem dX6_digest_37 : decode cX6_digest 37 = .ok (.goto (-19), 3) := by decide +kernel
theorem dX6_digest_40 : decode cX6_digest 40 = .ok (.aload_n 0, 1) := by decide +kernel
theorem dX6_digest_41 : decode cX6_digest 41 = .ok (.aload_n 0, 1) := by decide +kernel
theorem dX6_digest_42 : decode cX6_digest 42 = .ok (.getfield 7, 3) := by decide +kernel
theorem dX6_digest_45 : decode cX6_digest 45 = .ok (.bipush 59, 2) := by decide +kernel
theorem dX6_digest_47 : decode cX6_digest 47 = .ok (.iaload, 1) := by decide +kernel
theorem dX6_digest_48 : decode cX6_digest 48 = .ok (.i2l, 1) := by decide +kernel
theorem dX6_digest_49 : decode cX6_digest 49 = .ok (.invokevirtual 265, 3) := by decide +kernel
theorem dX6_digest_52 : decode cX6_digest 52 = .ok (.iconst 0, 1) := by decide +kernel
theorem dX6_digest_53 : decode cX6_digest 53 = .ok (.istore_n 1, 1) := by decide +kernel
theorem dX6_digest_54 : decode cX6_digest 54 = .ok (.iload_n 1, 1) := by decide +kernel
theorem dX6_digest_55 : decode cX6_digest 55 = .ok (.aload_n 0, 1) := by decide +kernel
theorem dX6_digest_56 : decode cX6_digest 56 = .ok (.getfield 7, 3) := by decide +kernel
theorem dX6_digest_59 : decode cX6_digest 59 = .ok (.iconst 0, 1) := by decide +kernel
theorem dX6_digest_60 : decode cX6_digest 60 = .ok (.iaload, 1) := by decide +kernel
theorem dX6_digest_61 : decode cX6_digest 61 = .ok (.if_icmp .ge 54, 3) := by decide +kernel
theorem dX6_digest_64 : decode cX6_digest 64 = .ok (.iconst 0, 1) := by decide +kernel
theorem dX6_digest_65 : decode cX6_digest 65 = .ok (.istore_n 2, 1) := by decide +kernel
theorem dX6_digest_66 : decode cX6_digest 66 = .ok (.iload_n 2, 1) := by decide +kernel
theorem dX6_digest_67 : decode cX6_digest 67 = .ok (.bipush 9, 2) := by decide +kernel
theorem dX6_digest_69 : decode cX6_digest 69 = .ok (.if_icmp .ge 20, 3) := by decide +kernel
theorem dX6_digest_72 : decode cX6_digest 72 = .ok (.aload_n 0, 1) := by decide +kernel
theorem dX6_digest_73 : decode cX6_digest 73 = .ok (.aload_n 0, 1) := by decide +kernel
theorem dX6_digest_74 : decode cX6_digest 74 = .ok (.iload_n 1, 1) := by decide +kernel
theorem dX6_digest_75 : decode cX6_digest 75 = .ok (.iload_n 2, 1) := by decide +kernel
theorem dX6_digest_76 : decode cX6_digest 76 = .ok (.invokevirtual 192, 3) := by decide +kernel
theorem dX6_digest_79 : decode cX6_digest 79 = .ok (.i2l, 1) := by decide +kernel
theorem dX6_digest_80 : decode cX6_digest 80 = .ok (.invokevirtual 265, 3) := by decide +kernel
theorem dX6_digest_83 : decode cX6_digest 83 = .ok (.iinc 2 1, 3) := by decide +kernel
theorem dX6_digest_86 : decode cX6_digest 86 = .ok (.goto (-20), 3) := by decide +kernel
theorem dX6_digest_89 : decode cX6_digest 89 = .ok (.aload_n 0, 1) := by decide +kernel
theorem dX6_digest_90 : decode cX6_digest 90 = .ok (.aload_n 0, 1) := by decide +kernel
theorem dX6_digest_91 : decode cX6_digest 91 = .ok (.getfield 22, 3) := by decide +kernel
theorem dX6_digest_94 : decode cX6_digest 94 = .ok (.iload_n 1, 1) := by decide +kernel
theorem dX6_digest_95 : decode cX6_digest 95 = .ok (.laload, 1) := by decide +kernel
theorem dX6_digest_96 : decode cX6_digest 96 = .ok (.invokevirtual 265, 3) := by decide +kernel
theorem dX6_digest_99 : decode cX6_digest 99 = .ok (.aload_n 0, 1) := by decide +kernel
theorem dX6_digest_100 : decode cX6_digest 100 = .ok (.aload_n 0, 1) := by decide +kernel
theorem dX6_digest_101 : decode cX6_digest 101 = .ok (.getfield 26, 3) := by decide +kernel
theorem dX6_digest_104 : decode cX6_digest 104 = .ok (.iload_n 1, 1) := by decide +kernel
theorem dX6_digest_105 : decode cX6_digest 105 = .ok (.laload, 1) := by decide +kernel
theorem dX6_digest_106 : decode cX6_digest 106 = .ok (.invokevirtual 265, 3) := by decide +kernel
theorem dX6_digest_109 : decode cX6_digest 109 = .ok (.iinc 1 1, 3) := by decide +kernel
theorem dX6_digest_112 : decode cX6_digest 112 = .ok (.goto (-58), 3) := by decide +kernel
theorem dX6_digest_115 : decode cX6_digest 115 = .ok (.iconst 0, 1) := by decide +kernel
theorem dX6_digest_116 : decode cX6_digest 116 = .ok (.istore_n 1, 1) := by decide +kernel
theorem dX6_digest_117 : decode cX6_digest 117 = .ok (.iload_n 1, 1) := by decide +kernel
theorem dX6_digest_118 : decode cX6_digest 118 = .ok (.aload_n 0, 1) := by decide +kernel
theorem dX6_digest_119 : decode cX6_digest 119 = .ok (.getfield 7, 3) := by decide +kernel
theorem dX6_digest_122 : decode cX6_digest 122 = .ok (.iconst 0, 1) := by decide +kernel
theorem dX6_digest_123 : decode cX6_digest 123 = .ok (.iaload, 1) := by decide +kernel
theorem dX6_digest_124 : decode cX6_digest 124 = .ok (.if_icmp .ge 85, 3) := by decide +kernel
theorem dX6_digest_127 : decode cX6_digest 127 = .ok (.iconst 0, 1) := by decide +kernel
theorem dX6_digest_128 : decode cX6_digest 128 = .ok (.istore_n 2, 1) := by decide +kernel
theorem dX6_digest_129 : decode cX6_digest 129 = .ok (.iload_n 2, 1) := by decide +kernel
theorem dX6_digest_130 : decode cX6_digest 130 = .ok (.aload_n 0, 1) := by decide +kernel
theorem dX6_digest_131 : decode cX6_digest 131 = .ok (.getfield 7, 3) := by decide +kernel
theorem dX6_digest_134 : decode cX6_digest 134 = .ok (.iconst 0, 1) := by decide +kernel
theorem dX6_digest_135 : decode cX6_digest 135 = .ok (.iaload, 1) := by decide +kernel
theorem dX6_digest_136 : decode cX6_digest 136 = .ok (.if_icmp .ge 67, 3) := by decide +kernel
theorem dX6_digest_139 : decode cX6_digest 139 = .ok (.aload_n 0, 1) := by decide +kernel
theorem dX6_digest_140 : decode cX6_digest 140 = .ok (.aload_n 0, 1) := by decide +kernel
theorem dX6_digest_141 : decode cX6_digest 141 = .ok (.iload_n 1, 1) := by decide +kernel
theorem dX6_digest_142 : decode cX6_digest 142 = .ok (.iload_n 2, 1) := by decide +kernel
theorem dX6_digest_143 : decode cX6_digest 143 = .ok (.invokevirtual 73, 3) := by decide +kernel
theorem dX6_digest_146 : decode cX6_digest 146 = .ok (.i2l, 1) := by decide +kernel
theorem dX6_digest_147 : decode cX6_digest 147 = .ok (.invokevirtual 265, 3) := by decide +kernel
theorem dX6_digest_150 : decode cX6_digest 150 = .ok (.iconst 0, 1) := by decide +kernel
theorem dX6_digest_151 : decode cX6_digest 151 = .ok (.istore_n 3, 1) := by decide +kernel
theorem dX6_digest_152 : decode cX6_digest 152 = .ok (.iload_n 3, 1) := by decide +kernel
theorem dX6_digest_153 : decode cX6_digest 153 = .ok (.iconst 4, 1) := by decide +kernel
theorem dX6_digest_154 : decode cX6_digest 154 = .ok (.if_icmp .ge 21, 3) := by decide +kernel
theorem dX6_digest_157 : decode cX6_digest 157 = .ok (.aload_n 0, 1) := by decide +kernel
theorem dX6_digest_158 : decode cX6_digest 158 = .ok (.aload_n 0, 1) := by decide +kernel
theorem dX6_digest_159 : decode cX6_digest 159 = .ok (.iload_n 1, 1) := by decide +kernel
theorem dX6_digest_160 : decode cX6_digest 160 = .ok (.iload_n 2, 1) := by decide +kernel
theorem dX6_digest_161 : decode cX6_digest 161 = .ok (.iload_n 3, 1) := by decide +kernel
theorem dX6_digest_162 : decode cX6_digest 162 = .ok (.invokevirtual 208, 3) := by decide +kernel
theorem dX6_digest_165 : decode cX6_digest 165 = .ok (.i2l, 1) := by decide +kernel
theorem dX6_digest_166 : decode cX6_digest 166 = .ok (.invokevirtual 265, 3) := by decide +kernel
theorem dX6_digest_169 : decode cX6_digest 169 = .ok (.iinc 3 1, 3) := by decide +kernel
theorem dX6_digest_172 : decode cX6_digest 172 = .ok (.goto (-20), 3) := by decide +kernel
theorem dX6_digest_175 : decode cX6_digest 175 = .ok (.aload_n 0, 1) := by decide +kernel
theorem dX6_digest_176 : decode cX6_digest 176 = .ok (.aload_n 0, 1) := by decide +kernel
theorem dX6_digest_177 : decode cX6_digest 177 = .ok (.iload_n 1, 1) := by decide +kernel
theorem dX6_digest_178 : decode cX6_digest 178 = .ok (.iload_n 2, 1) := by decide +kernel
theorem dX6_digest_179 : decode cX6_digest 179 = .ok (.iconst 0, 1) := by decide +kernel
theorem dX6_digest_180 : decode cX6_digest 180 = .ok (.invokevirtual 211, 3) := by decide +kernel
theorem dX6_digest_183 : decode cX6_digest 183 = .ok (.invokevirtual 265, 3) := by decide +kernel
theorem dX6_digest_186 : decode cX6_digest 186 = .ok (.aload_n 0, 1) := by decide +kernel
theorem dX6_digest_187 : decode cX6_digest 187 = .ok (.aload_n 0, 1) := by decide +kernel
theorem dX6_digest_188 : decode cX6_digest 188 = .ok (.iload_n 1, 1) := by decide +kernel
theorem dX6_digest_189 : decode cX6_digest 189 = .ok (.iload_n 2, 1) := by decide +kernel
theorem dX6_digest_190 : decode cX6_digest 190 = .ok (.iconst 1, 1) := by decide +kernel
theorem dX6_digest_191 : decode cX6_digest 191 = .ok (.invokevirtual 211, 3) := by decide +kernel
theorem dX6_digest_194 : decode cX6_digest 194 = .ok (.invokevirtual 265, 3) := by decide +kernel
theorem dX6_digest_197 : decode cX6_digest 197 = .ok (.iinc 2 1, 3) := by decide +kernel
theorem dX6_digest_200 : decode cX6_digest 200 = .ok (.goto (-71), 3) := by decide +kernel
theorem dX6_digest_203 : decode cX6_digest 203 = .ok (.iinc 1 1, 3) := by decide +kernel
theorem dX6_digest_206 : decode cX6_digest 206 = .ok (.goto (-89), 3) := by decide +kernel
theorem dX6_digest_209 : decode cX6_digest 209 = .ok (.aload_n 0, 1) := by decide +kernel
theorem dX6_digest_210 : decode cX6_digest 210 = .ok (.aload_n 0, 1) := by decide +kernel
theorem dX6_digest_211 : decode cX6_digest 211 = .ok (.invokevirtual 215, 3) := by decide +kernel
theorem dX6_digest_214 : decode cX6_digest 214 = .ok (.invokevirtual 265, 3) := by decide +kernel
theorem dX6_digest_217 : decode cX6_digest 217 = .ok (.iconst 0, 1) := by decide +kernel
theorem dX6_digest_218 : decode cX6_digest 218 = .ok (.istore_n 1, 1) := by decide +kernel
theorem dX6_digest_219 : decode cX6_digest 219 = .ok (.iload_n 1, 1) := by decide +kernel
theorem dX6_digest_220 : decode cX6_digest 220 = .ok (.iconst 3, 1) := by decide +kernel
theorem dX6_digest_221 : decode cX6_digest 221 = .ok (.if_icmp .ge 19, 3) := by decide +kernel
theorem dX6_digest_224 : decode cX6_digest 224 = .ok (.aload_n 0, 1) := by decide +kernel
theorem dX6_digest_225 : decode cX6_digest 225 = .ok (.aload_n 0, 1) := by decide +kernel
theorem dX6_digest_226 : decode cX6_digest 226 = .ok (.iload_n 1, 1) := by decide +kernel
theorem dX6_digest_227 : decode cX6_digest 227 = .ok (.invokevirtual 240, 3) := by decide +kernel
theorem dX6_digest_230 : decode cX6_digest 230 = .ok (.i2l, 1) := by decide +kernel
theorem dX6_digest_231 : decode cX6_digest 231 = .ok (.invokevirtual 265, 3) := by decide +kernel
theorem dX6_digest_234 : decode cX6_digest 234 = .ok (.iinc 1 1, 3) := by decide +kernel
theorem dX6_digest_237 : decode cX6_digest 237 = .ok (.goto (-18), 3) := by decide +kernel
theorem dX6_digest_240 : decode cX6_digest 240 = .ok (.aload_n 0, 1) := by decide +kernel
theorem dX6_digest_241 : decode cX6_digest 241 = .ok (.aload_n 0, 1) := by decide +kernel
theorem dX6_digest_242 : decode cX6_digest 242 = .ok (.invokevirtual 243, 3) := by decide +kernel
theorem dX6_digest_245 : decode cX6_digest 245 = .ok (.i2l, 1) := by decide +kernel
theorem dX6_digest_246 : decode cX6_digest 246 = .ok (.invokevirtual 265, 3) := by decide +kernel
theorem dX6_digest_249 : decode cX6_digest 249 = .ok (.aload_n 0, 1) := by decide +kernel
theorem dX6_digest_250 : decode cX6_digest 250 = .ok (.invokevirtual 156, 3) := by decide +kernel
theorem dX6_digest_253 : decode cX6_digest 253 = .ok (.aload_n 0, 1) := by decide +kernel
theorem dX6_digest_254 : decode cX6_digest 254 = .ok (.aload_n 0, 1) := by decide +kernel
theorem dX6_digest_255 : decode cX6_digest 255 = .ok (.invokevirtual 246, 3) := by decide +kernel
theorem dX6_digest_258 : decode cX6_digest 258 = .ok (.invokestatic 269, 3) := by decide +kernel
theorem dX6_digest_261 : decode cX6_digest 261 = .ok (.invokevirtual 265, 3) := by decide +kernel
theorem dX6_digest_264 : decode cX6_digest 264 = .ok (.aload_n 0, 1) := by decide +kernel
theorem dX6_digest_265 : decode cX6_digest 265 = .ok (.aload_n 0, 1) := by decide +kernel
theorem dX6_digest_266 : decode cX6_digest 266 = .ok (.getfield 163, 3) := by decide +kernel
theorem dX6_digest_269 : decode cX6_digest 269 = .ok (.i2l, 1) := by decide +kernel
theorem dX6_digest_270 : decode cX6_digest 270 = .ok (.invokevirtual 265, 3) := by decide +kernel
theorem dX6_digest_273 : decode cX6_digest 273 = .ok (.iconst 0, 1) := by decide +kernel
theorem dX6_digest_274 : decode cX6_digest 274 = .ok (.istore_n 1, 1) := by decide +kernel
theorem dX6_digest_275 : decode cX6_digest 275 = .ok (.iload_n 1, 1) := by decide +kernel
theorem dX6_digest_276 : decode cX6_digest 276 = .ok (.aload_n 0, 1) := by decide +kernel
theorem dX6_digest_277 : decode cX6_digest 277 = .ok (.getfield 163, 3) := by decide +kernel
theorem dX6_digest_280 : decode cX6_digest 280 = .ok (.if_icmp .ge 20, 3) := by decide +kernel
theorem dX6_digest_283 : decode cX6_digest 283 = .ok (.aload_n 0, 1) := by decide +kernel
theorem dX6_digest_284 : decode cX6_digest 284 = .ok (.aload_n 0, 1) := by decide +kernel
theorem dX6_digest_285 : decode cX6_digest 285 = .ok (.getfield 19, 3) := by decide +kernel
theorem dX6_digest_288 : decode cX6_digest 288 = .ok (.iload_n 1, 1) := by decide +kernel
theorem dX6_digest_289 : decode cX6_digest 289 = .ok (.iaload, 1) := by decide +kernel
theorem dX6_digest_290 : decode cX6_digest 290 = .ok (.i2l, 1) := by decide +kernel
theorem dX6_digest_291 : decode cX6_digest 291 = .ok (.invokevirtual 265, 3) := by decide +kernel
theorem dX6_digest_294 : decode cX6_digest 294 = .ok (.iinc 1 1, 3) := by decide +kernel
theorem dX6_digest_297 : decode cX6_digest 297 = .ok (.goto (-22), 3) := by decide +kernel
theorem dX6_digest_300 : decode cX6_digest 300 = .ok (.aload_n 0, 1) := by decide +kernel
theorem dX6_digest_301 : decode cX6_digest 301 = .ok (.getfield 260, 3) := by decide +kernel
theorem dX6_digest_304 : decode cX6_digest 304 = .ok (.lreturn, 1) := by decide +kernel
set_option maxRecDepth 20000 in
theorem ggL_addPeg_X5_addPeg : GoodIn wsL_addPeg wsX5_addPeg := goodIn_ca (goodIn_ca (goodIn_r _ [7, 8, 9, 10, 11, 12, 13, 6, 14, 15, 16, 17, 18, 19, 20, 21, 22, 23, 24, 25, 26, 27, 28, 29, 30, 31, 32, 33, 34, 35, 36, 37, 38, 39, 40, 41, 42, 43, 44, 45, 46, 47, 48, 49, 50, 51, 52, 53, 54, 55, 56, 57, 58, 59, 60, 61, 62, 63, 64, 65, 66, 67, 68, 69, 70, 71, 72, 73, 74, 75, 76, 77, 78, 79, 80, 81, 82, 83, 84, 85, 86, 87, 88, 89, 90, 91, 92, 93, 94, 95, 96, 97, 98, 99, 100, 101, 102, 103, 104, 105, 106, 107, 108, 109, 110, 111, 112, 113, 114, 115, 116, 117, 118, 119, 120, 121, 122, 123, 124, 125, 126, 127, 128, 129, 130, 131, 132, 133, 134, 135, 136, 137, 138, 139, 140, 141, 142, 143, 144, 145, 146, 147, 148, 149, 150, 151, 152, 153, 154, 155, 156, 157, 158, 159, 160, 161, 162, 163, 164, 165, 166, 167, 168, 169] (by decide +kernel) (by decide +kernel)) (goodIn_sub (fun _ h => List.mem_cons_of_mem _ (List.mem_append_left _ (List.mem_append_right _ h))) (by decide +kernel))) (goodIn_sub (fun _ h => List.mem_cons_of_mem _ (List.mem_append_right _ h)) (by decide +kernel))
set_option maxRecDepth 20000 in
theorem gL_addPeg_X5_addPeg : GoodIn wsL_addPeg (wsV RL 7 RX5 yX5_addPeg wsX5_addPeg) := goodIn_app (goodIn_of _ (by decide +kernel)) ggL_addPeg_X5_addPeg
theorem dL_addPeg_0 : decode cL_addPeg 0 = .ok (.aload_n 3, 1) := by decide +kernel
theorem dL_addPeg_1 : decode cL_addPeg 1 = .ok (.iconst 0, 1) := by decide +kernel
theorem dL_addPeg_2 : decode cL_addPeg 2 = .ok (.aload_n 0, 1) := by decide +kernel
theorem dL_addPeg_3 : decode cL_addPeg 3 = .ok (.iload_n 1, 1) := by decide +kernel
theorem dL_addPeg_4 : decode cL_addPeg 4 = .ok (.iload_n 2, 1) := by decide +kernel
theorem dL_addPeg_5 : decode cL_addPeg 5 = .ok (.invokevirtual 7, 3) := by decide +kernel
theorem dL_addPeg_8 : decode cL_addPeg 8 = .ok (.i2l, 1) := by decide +kernel
theorem dL_addPeg_9 : decode cL_addPeg 9 = .ok (.lastore, 1) := by decide +kernel
theorem dL_addPeg_10 : decode cL_addPeg 10 = .ok (.goto 11, 3) := by decide +kernel
theorem dL_addPeg_13 : decode cL_addPeg 13 = .ok (.astore 4, 2) := by decide +kernel
theorem dL_addPeg_15 : decode cL_addPeg 15 = .ok (.iconst 1, 1) := by decide +kernel
theorem dL_addPeg_16 : decode cL_addPeg 16 = .ok (.ireturn, 1) := by decide +kernel
theorem dL_addPeg_17 : decode cL_addPeg 17 = .ok (.astore 4, 2) := by decide +kernel
theorem dL_addPeg_19 : decode cL_addPeg 19 = .ok (.iconst 2, 1) := by decide +kernel
theorem dL_addPeg_20 : decode cL_addPeg 20 = .ok (.ireturn, 1) := by decide +kernel
theorem dL_addPeg_21 : decode cL_addPeg 21 = .ok (.iconst 0, 1) := by decide +kernel
theorem dL_addPeg_22 : decode cL_addPeg 22 = .ok (.ireturn, 1) := by decide +kernel
set_option maxRecDepth 20000 in
theorem ggL_putGear_X5_putGear : GoodIn wsL_putGear wsX5_putGear := goodIn_ca (goodIn_ca (goodIn_ca (goodIn_r _ [8, 9, 10, 11, 7, 12, 13, 14, 15, 16, 17, 18, 19, 20, 21, 22, 23, 24, 25, 26, 27, 28, 29, 30, 31, 32, 33, 34, 35, 36, 37, 38, 39, 40, 41, 42, 43, 44, 45, 46, 47, 48, 49, 50, 51, 52, 53, 54, 55, 56, 57, 58, 59, 60, 61, 62, 63, 64, 65, 66, 67, 68, 69, 70, 71, 72, 73, 74, 75, 76, 77, 78, 79, 80, 81, 82, 83, 84, 85, 86, 87, 88, 89, 90, 91, 92, 93, 94, 95, 96, 97, 98, 99, 100, 101, 102, 103, 104, 105, 106, 107, 108, 109, 110, 111, 112, 113, 114, 115, 116, 117, 118, 119, 120, 121, 122, 123, 124, 125, 126, 127, 128, 129, 130, 131, 132, 133, 134, 135, 136, 137, 138, 139, 140, 141, 142, 143, 144, 145, 146, 147, 148, 149, 150, 151, 152, 153, 154, 155, 156, 157, 158, 159, 160, 161, 162, 163, 164, 165, 166, 167, 168, 169, 170, 171, 172, 173, 174, 175, 176, 177, 178, 179, 180, 181, 182, 183, 184, 185, 186, 187, 188, 189, 190, 191, 192, 193, 194, 195] (by decide +kernel) (by decide +kernel)) (goodIn_sub (fun _ h => List.mem_cons_of_mem _ (List.mem_append_left _ (List.mem_append_left _ (List.mem_append_right _ h)))) (by decide +kernel))) (goodIn_sub (fun _ h => List.mem_cons_of_mem _ (List.mem_append_left _ (List.mem_append_right _ h))) (by decide +kernel))) (goodIn_sub (fun _ h => List.mem_cons_of_mem _ (List.mem_append_right _ h)) (by decide +kernel))
set_option maxRecDepth 20000 in
theorem gL_putGear_X5_putGear : GoodIn wsL_putGear (wsV RL 17 RX5 yX5_putGear wsX5_putGear) := goodIn_app (goodIn_of _ (by decide +kernel)) ggL_putGear_X5_putGear
theorem dL_putGear_0 : decode cL_putGear 0 = .ok (.aload 4, 2) := by decide +kernel
theorem dL_putGear_2 : decode cL_putGear 2 = .ok (.iconst 0, 1) := by decide +kernel
theorem dL_putGear_3 : decode cL_putGear 3 = .ok (.aload_n 0, 1) := by decide +kernel
theorem dL_putGear_4 : decode cL_putGear 4 = .ok (.iload_n 1, 1) := by decide +kernel
theorem dL_putGear_5 : decode cL_putGear 5 = .ok (.iload_n 2, 1) := by decide +kernel
theorem dL_putGear_6 : decode cL_putGear 6 = .ok (.iload_n 3, 1) := by decide +kernel
theorem dL_putGear_7 : decode cL_putGear 7 = .ok (.invokevirtual 17, 3) := by decide +kernel
theorem dL_putGear_10 : decode cL_putGear 10 = .ok (.i2l, 1) := by decide +kernel
theorem dL_putGear_11 : decode cL_putGear 11 = .ok (.lastore, 1) := by decide +kernel
theorem dL_putGear_12 : decode cL_putGear 12 = .ok (.goto 15, 3) := by decide +kernel
theorem dL_putGear_15 : decode cL_putGear 15 = .ok (.astore 5, 2) := by decide +kernel
theorem dL_putGear_17 : decode cL_putGear 17 = .ok (.iconst 1, 1) := by decide +kernel
theorem dL_putGear_18 : decode cL_putGear 18 = .ok (.ireturn, 1) := by decide +kernel
theorem dL_putGear_19 : decode cL_putGear 19 = .ok (.astore 5, 2) := by decide +kernel
theorem dL_putGear_21 : decode cL_putGear 21 = .ok (.iconst 2, 1) := by decide +kernel
theorem dL_putGear_22 : decode cL_putGear 22 = .ok (.ireturn, 1) := by decide +kernel
theorem dL_putGear_23 : decode cL_putGear 23 = .ok (.astore 5, 2) := by decide +kernel
theorem dL_putGear_25 : decode cL_putGear 25 = .ok (.iconst 3, 1) := by decide +kernel
theorem dL_putGear_26 : decode cL_putGear 26 = .ok (.ireturn, 1) := by decide +kernel
theorem dL_putGear_27 : decode cL_putGear 27 = .ok (.iconst 0, 1) := by decide +kernel
theorem dL_putGear_28 : decode cL_putGear 28 = .ok (.ireturn, 1) := by decide +kernel
set_option maxRecDepth 20000 in
theorem ggL_putRing_X5_putRing : GoodIn wsL_putRing wsX5_putRing := goodIn_ca (goodIn_ca (goodIn_ca (goodIn_r _ [8, 9, 10, 11, 7, 12, 13, 14, 15, 16, 17, 18, 19, 20, 21, 22, 23, 24, 25, 26, 27, 28, 29, 30, 31, 32, 33, 34, 35, 36, 37, 38, 39, 40, 41, 42, 43, 44, 45, 46, 47, 48, 49, 50, 51, 52, 53, 54, 55, 56, 57, 58, 59, 60, 61, 62, 63, 64, 65, 66, 67, 68, 69, 70, 71, 72, 73, 74, 75, 76, 77, 78, 79, 80, 81, 82, 83, 84, 85, 86, 87, 88, 89, 90, 91, 92, 93, 94, 95, 96, 97, 98, 99, 100, 101, 102, 103, 104, 105, 106, 107, 108, 109, 110, 111, 112, 113, 114, 115, 116, 117, 118, 119, 120, 121, 122, 123, 124, 125, 126, 127, 128, 129, 130, 131, 132, 133, 134, 135, 136, 137, 138, 139, 140, 141, 142, 143, 144, 145, 146, 147, 148, 149, 150, 151, 152, 153, 154, 155, 156, 157, 158, 159, 160, 161, 162, 163, 164, 165, 166, 167, 168, 169, 170, 171, 172, 173, 174, 175, 176, 177, 178, 179, 180, 181, 182, 183, 184, 185, 186, 187, 188, 189] (by decide +kernel) (by decide +kernel)) (goodIn_sub (fun _ h => List.mem_cons_of_mem _ (List.mem_append_left _ (List.mem_append_left _ (List.mem_append_right _ h)))) (by decide +kernel))) (goodIn_sub (fun _ h => List.mem_cons_of_mem _ (List.mem_append_left _ (List.mem_append_right _ h))) (by decide +kernel))) (goodIn_sub (fun _ h => List.mem_cons_of_mem _ (List.mem_append_right _ h)) (by decide +kernel))
set_option maxRecDepth 20000 in
theorem gL_putRing_X5_putRing : GoodIn wsL_putRing (wsV RL 23 RX5 yX5_putRing wsX5_putRing) := goodIn_app (goodIn_of _ (by decide +kernel)) ggL_putRing_X5_putRing
theorem dL_putRing_0 : decode cL_putRing 0 = .ok (.aload 4, 2) := by decide +kernel
theorem dL_putRing_2 : decode cL_putRing 2 = .ok (.iconst 0, 1) := by decide +kernel
theorem dL_putRing_3 : decode cL_putRing 3 = .ok (.aload_n 0, 1) := by decide +kernel
theorem dL_putRing_4 : decode cL_putRing 4 = .ok (.iload_n 1, 1) := by decide +kernel
theorem dL_putRing_5 : decode cL_putRing 5 = .ok (.iload_n 2, 1) := by decide +kernel
theorem dL_putRing_6 : decode cL_putRing 6 = .ok (.iload_n 3, 1) := by decide +kernel
theorem dL_putRing_7 : decode cL_putRing 7 = .ok (.invokevirtual 23, 3) := by decide +kernel
theorem dL_putRing_10 : decode cL_putRing 10 = .ok (.i2l, 1) := by decide +kernel
theorem dL_putRing_11 : decode cL_putRing 11 = .ok (.lastore, 1) := by decide +kernel
theorem dL_putRing_12 : decode cL_putRing 12 = .ok (.goto 15, 3) := by decide +kernel
theorem dL_putRing_15 : decode cL_putRing 15 = .ok (.astore 5, 2) := by decide +kernel
theorem dL_putRing_17 : decode cL_putRing 17 = .ok (.iconst 1, 1) := by decide +kernel
theorem dL_putRing_18 : decode cL_putRing 18 = .ok (.ireturn, 1) := by decide +kernel
theorem dL_putRing_19 : decode cL_putRing 19 = .ok (.astore 5, 2) := by decide +kernel
theorem dL_putRing_21 : decode cL_putRing 21 = .ok (.iconst 2, 1) := by decide +kernel
theorem dL_putRing_22 : decode cL_putRing 22 = .ok (.ireturn, 1) := by decide +kernel
theorem dL_putRing_23 : decode cL_putRing 23 = .ok (.astore 5, 2) := by decide +kernel
theorem dL_putRing_25 : decode cL_putRing 25 = .ok (.iconst 3, 1) := by decide +kernel
theorem dL_putRing_26 : decode cL_putRing 26 = .ok (.ireturn, 1) := by decide +kernel
theorem dL_putRing_27 : decode cL_putRing 27 = .ok (.iconst 0, 1) := by decide +kernel
theorem dL_putRing_28 : decode cL_putRing 28 = .ok (.ireturn, 1) := by decide +kernel
set_option maxRecDepth 20000 in
theorem ggL_move_X5_move : GoodIn wsL_move wsX5_move := goodIn_ca (goodIn_ca (goodIn_ca (goodIn_r _ [8, 9, 10, 11, 12, 13, 14, 15, 16, 7, 17, 18, 19, 20, 21, 22, 23, 24, 25, 26, 27, 28, 29, 30, 31, 32, 33, 34, 35, 36, 37, 38, 39, 40, 41, 42, 43, 44, 45, 46, 47, 48, 49, 50, 51, 52, 53, 54, 55, 56, 57, 58, 59, 60, 61, 62, 63, 64, 65, 66, 67, 68, 69, 70, 71, 72, 73, 74, 75, 76, 77, 78, 79, 80, 81, 82, 83, 84, 85, 86, 87, 88, 89, 90, 91, 92, 93, 94, 95, 96, 97, 98, 99, 100, 101, 102, 103, 104, 105, 106, 107, 108, 109, 110, 111, 112, 113, 114, 115, 116, 117, 118, 119, 120, 121, 122, 123, 124, 125, 126, 127, 128, 129, 130, 131, 132, 133, 134, 135, 136, 137, 138, 139, 140, 141, 142, 143, 144, 145, 146, 147, 148, 149, 150, 151, 152, 153, 154, 155, 156, 157, 158, 159, 160, 161, 162, 163, 164, 165, 166, 167, 168, 169, 170, 171, 172, 173, 174, 175, 176, 177, 178, 179, 180, 181, 182, 183] (by decide +kernel) (by decide +kernel)) (goodIn_sub (fun _ h => List.mem_cons_of_mem _ (List.mem_append_left _ (List.mem_append_left _ (List.mem_append_right _ h)))) (by decide +kernel))) (goodIn_sub (fun _ h => List.mem_cons_of_mem _ (List.mem_append_left _ (List.mem_append_right _ h))) (by decide +kernel))) (goodIn_sub (fun _ h => List.mem_cons_of_mem _ (List.mem_append_right _ h)) (by decide +kernel))
set_option maxRecDepth 20000 in
theorem gL_move_X5_move : GoodIn wsL_move (wsV RL 26 RX5 yX5_move wsX5_move) := goodIn_app (goodIn_of _ (by decide +kernel)) ggL_move_X5_move
theorem dL_move_0 : decode cL_move 0 = .ok (.aload 4, 2) := by decide +kernel
theorem dL_move_2 : decode cL_move 2 = .ok (.iconst 0, 1) := by decide +kernel
theorem dL_move_3 : decode cL_move 3 = .ok (.aload_n 0, 1) := by decide +kernel
theorem dL_move_4 : decode cL_move 4 = .ok (.iload_n 1, 1) := by decide +kernel
theorem dL_move_5 : decode cL_move 5 = .ok (.iload_n 2, 1) := by decide +kernel
theorem dL_move_6 : decode cL_move 6 = .ok (.iload_n 3, 1) := by decide +kernel
theorem dL_move_7 : decode cL_move 7 = .ok (.invokevirtual 26, 3) := by decide +kernel
theorem dL_move_10 : decode cL_move 10 = .ok (.i2l, 1) := by decide +kernel
theorem dL_move_11 : decode cL_move 11 = .ok (.lastore, 1) := by decide +kernel
theorem dL_move_12 : decode cL_move 12 = .ok (.goto 15, 3) := by decide +kernel
theorem dL_move_15 : decode cL_move 15 = .ok (.astore 5, 2) := by decide +kernel
theorem dL_move_17 : decode cL_move 17 = .ok (.iconst 1, 1) := by decide +kernel
theorem dL_move_18 : decode cL_move 18 = .ok (.ireturn, 1) := by decide +kernel
theorem dL_move_19 : decode cL_move 19 = .ok (.astore 5, 2) := by decide +kernel
theorem dL_move_21 : decode cL_move 21 = .ok (.iconst 2, 1) := by decide +kernel
theorem dL_move_22 : decode cL_move 22 = .ok (.ireturn, 1) := by decide +kernel
theorem dL_move_23 : decode cL_move 23 = .ok (.astore 5, 2) := by decide +kernel
theorem dL_move_25 : decode cL_move 25 = .ok (.iconst 3, 1) := by decide +kernel
theorem dL_move_26 : decode cL_move 26 = .ok (.ireturn, 1) := by decide +kernel
theorem dL_move_27 : decode cL_move 27 = .ok (.iconst 0, 1) := by decide +kernel
theorem dL_move_28 : decode cL_move 28 = .ok (.ireturn, 1) := by decide +kernel
set_option maxRecDepth 20000 in
theorem ggL_flip_X5_flip : GoodIn wsL_flip wsX5_flip := goodIn_ca (goodIn_ca (goodIn_r _ [7, 8, 9, 10, 11, 12, 13, 14, 15, 6, 16, 17, 18, 19, 20, 21, 22, 23, 24, 25, 26, 27, 28, 29, 30, 31, 32, 33, 34, 35, 36, 37, 38, 39, 40, 41, 42, 43, 44, 45, 46, 47, 48, 49, 50, 51, 52, 53, 54, 55, 56, 57, 58, 59, 60, 61, 62, 63, 64, 65, 66, 67, 68, 69, 70, 71, 72, 73, 74, 75, 76, 77, 78, 79, 80, 81, 82, 83, 84, 85, 86, 87, 88, 89, 90, 91, 92, 93, 94, 95, 96, 97, 98, 99, 100, 101, 102, 103, 104, 105, 106, 107, 108, 109, 110, 111, 112, 113, 114, 115, 116, 117, 118, 119, 120, 121, 122, 123, 124, 125, 126, 127, 128, 129, 130, 131, 132, 133, 134, 135, 136, 137, 138, 139, 140, 141, 142, 143, 144, 145, 146, 147, 148, 149, 150, 151, 152, 153, 154, 155, 156, 157, 158, 159, 160, 161, 162, 163, 164, 165, 166, 167, 168, 169, 170, 171, 172, 173, 174] (by decide +kernel) (by decide +kernel)) (goodIn_sub (fun _ h => List.mem_cons_of_mem _ (List.mem_append_left _ (List.mem_append_right _ h))) (by decide +kernel))) (goodIn_sub (fun _ h => List.mem_cons_of_mem _ (List.mem_append_right _ h)) (by decide +kernel))
set_option maxRecDepth 20000 in
theorem gL_flip_X5_flip : GoodIn wsL_flip (wsV RL 29 RX5 yX5_flip wsX5_flip) := goodIn_app (goodIn_of _ (by decide +kernel)) ggL_flip_X5_flip
theorem dL_flip_0 : decode cL_flip 0 = .ok (.aload_n 2, 1) := by decide +kernel
theorem dL_flip_1 : decode cL_flip 1 = .ok (.iconst 0, 1) := by decide +kernel
theorem dL_flip_2 : decode cL_flip 2 = .ok (.aload_n 0, 1) := by decide +kernel
theorem dL_flip_3 : decode cL_flip 3 = .ok (.iload_n 1, 1) := by decide +kernel
theorem dL_flip_4 : decode cL_flip 4 = .ok (.invokevirtual 29, 3) := by decide +kernel
theorem dL_flip_7 : decode cL_flip 7 = .ok (.i2l, 1) := by decide +kernel
theorem dL_flip_8 : decode cL_flip 8 = .ok (.lastore, 1) := by decide +kernel
theorem dL_flip_9 : decode cL_flip 9 = .ok (.goto 9, 3) := by decide +kernel
theorem dL_flip_12 : decode cL_flip 12 = .ok (.astore_n 3, 1) := by decide +kernel
theorem dL_flip_13 : decode cL_flip 13 = .ok (.iconst 1, 1) := by decide +kernel
theorem dL_flip_14 : decode cL_flip 14 = .ok (.ireturn, 1) := by decide +kernel
theorem dL_flip_15 : decode cL_flip 15 = .ok (.astore_n 3, 1) := by decide +kernel
theorem dL_flip_16 : decode cL_flip 16 = .ok (.iconst 2, 1) := by decide +kernel
theorem dL_flip_17 : decode cL_flip 17 = .ok (.ireturn, 1) := by decide +kernel
theorem dL_flip_18 : decode cL_flip 18 = .ok (.iconst 0, 1) := by decide +kernel
theorem dL_flip_19 : decode cL_flip 19 = .ok (.ireturn, 1) := by decide +kernel
set_option maxRecDepth 20000 in
theorem ggL_drive_X5_drive : GoodIn wsL_drive wsX5_drive := goodIn_ca (goodIn_r _ [6, 7, 8, 9, 10, 11, 5, 12, 13, 14, 15, 16, 17, 18, 19, 20, 21, 22, 23, 24, 25, 26, 27, 28, 29, 30, 31, 32, 33, 34, 35, 36, 37, 38, 39, 40, 41, 42, 43, 44, 45, 46, 47, 48, 49, 50, 51, 52, 53, 54, 55, 56, 57, 58, 59, 60, 61, 62, 63, 64, 65, 66, 67, 68, 69, 70, 71, 72, 73, 74, 75, 76, 77, 78, 79, 80, 81, 82, 83, 84, 85, 86, 87, 88, 89, 90, 91, 92, 93, 94, 95, 96, 97, 98, 99, 100, 101, 102, 103, 104, 105, 106, 107, 108, 109, 110, 111, 112, 113, 114, 115, 116, 117, 118, 119, 120, 121, 122, 123, 124, 125, 126, 127, 128, 129, 130, 131, 132, 133, 134, 135, 136, 137, 138, 139, 140, 141, 142, 143, 144, 145, 146, 147, 148, 149, 150, 151, 152, 153] (by decide +kernel) (by decide +kernel)) (goodIn_sub (fun _ h => List.mem_cons_of_mem _ (List.mem_append_right _ h)) (by decide +kernel))
set_option maxRecDepth 20000 in
theorem gL_drive_X5_drive : GoodIn wsL_drive (wsV RL 33 RX5 yX5_drive wsX5_drive) := goodIn_app (goodIn_of _ (by decide +kernel)) ggL_drive_X5_drive
theorem dL_drive_0 : decode cL_drive 0 = .ok (.aload_n 2, 1) := by decide +kernel
theorem dL_drive_1 : decode cL_drive 1 = .ok (.iconst 0, 1) := by decide +kernel
theorem dL_drive_2 : decode cL_drive 2 = .ok (.aload_n 0, 1) := by decide +kernel
theorem dL_drive_3 : decode cL_drive 3 = .ok (.iload_n 1, 1) := by decide +kernel
theorem dL_drive_4 : decode cL_drive 4 = .ok (.invokevirtual 33, 3) := by decide +kernel
theorem dL_drive_7 : decode cL_drive 7 = .ok (.i2l, 1) := by decide +kernel
theorem dL_drive_8 : decode cL_drive 8 = .ok (.lastore, 1) := by decide +kernel
theorem dL_drive_9 : decode cL_drive 9 = .ok (.goto 6, 3) := by decide +kernel
theorem dL_drive_12 : decode cL_drive 12 = .ok (.astore_n 3, 1) := by decide +kernel
theorem dL_drive_13 : decode cL_drive 13 = .ok (.iconst 1, 1) := by decide +kernel
theorem dL_drive_14 : decode cL_drive 14 = .ok (.ireturn, 1) := by decide +kernel
theorem dL_drive_15 : decode cL_drive 15 = .ok (.iconst 0, 1) := by decide +kernel
theorem dL_drive_16 : decode cL_drive 16 = .ok (.ireturn, 1) := by decide +kernel
set_option maxRecDepth 20000 in
theorem ggL_goal_X5_goal : GoodIn wsL_goal wsX5_goal := goodIn_ca (goodIn_ca (goodIn_r _ [7, 8, 9, 10, 11, 12, 13, 6, 14, 15, 16, 17, 18, 19, 20, 21, 22, 23, 24, 25, 26, 27, 28, 29, 30, 31, 32, 33, 34, 35, 36, 37, 38, 39, 40, 41, 42, 43, 44, 45, 46, 47, 48, 49, 50, 51, 52, 53, 54, 55, 56, 57, 58, 59, 60, 61, 62, 63, 64, 65, 66, 67, 68, 69, 70, 71, 72, 73, 74, 75, 76, 77, 78, 79, 80, 81, 82, 83, 84, 85, 86, 87, 88, 89, 90, 91, 92, 93, 94, 95, 96, 97, 98, 99, 100, 101, 102, 103, 104, 105, 106, 107, 108, 109, 110, 111, 112, 113, 114, 115, 116, 117, 118, 119, 120, 121, 122, 123, 124, 125, 126, 127, 128, 129, 130, 131, 132, 133, 134, 135, 136, 137, 138, 139, 140, 141, 142, 143, 144, 145, 146, 147, 148, 149, 150, 151, 152, 153, 154, 155, 156, 157, 158, 159, 160, 161, 162, 163, 164, 165, 166, 167, 168] (by decide +kernel) (by decide +kernel)) (goodIn_sub (fun _ h => List.mem_cons_of_mem _ (List.mem_append_left _ (List.mem_append_right _ h))) (by decide +kernel))) (goodIn_sub (fun _ h => List.mem_cons_of_mem _ (List.mem_append_right _ h)) (by decide +kernel))
set_option maxRecDepth 20000 in
theorem gL_goal_X5_goal : GoodIn wsL_goal (wsV RL 36 RX5 yX5_goal wsX5_goal) := goodIn_app (goodIn_of _ (by decide +kernel)) ggL_goal_X5_goal
theorem dL_goal_0 : decode cL_goal 0 = .ok (.aload 4, 2) := by decide +kernel
theorem dL_goal_2 : decode cL_goal 2 = .ok (.iconst 0, 1) := by decide +kernel
theorem dL_goal_3 : decode cL_goal 3 = .ok (.aload_n 0, 1) := by decide +kernel
theorem dL_goal_4 : decode cL_goal 4 = .ok (.iload_n 1, 1) := by decide +kernel
theorem dL_goal_5 : decode cL_goal 5 = .ok (.iload_n 2, 1) := by decide +kernel
theorem dL_goal_6 : decode cL_goal 6 = .ok (.iload_n 3, 1) := by decide +kernel
theorem dL_goal_7 : decode cL_goal 7 = .ok (.invokevirtual 36, 3) := by decide +kernel
theorem dL_goal_10 : decode cL_goal 10 = .ok (.i2l, 1) := by decide +kernel
theorem dL_goal_11 : decode cL_goal 11 = .ok (.lastore, 1) := by decide +kernel
theorem dL_goal_12 : decode cL_goal 12 = .ok (.goto 11, 3) := by decide +kernel
theorem dL_goal_15 : decode cL_goal 15 = .ok (.astore 5, 2) := by decide +kernel
theorem dL_goal_17 : decode cL_goal 17 = .ok (.iconst 1, 1) := by decide +kernel
theorem dL_goal_18 : decode cL_goal 18 = .ok (.ireturn, 1) := by decide +kernel
theorem dL_goal_19 : decode cL_goal 19 = .ok (.astore 5, 2) := by decide +kernel
theorem dL_goal_21 : decode cL_goal 21 = .ok (.iconst 2, 1) := by decide +kernel
theorem dL_goal_22 : decode cL_goal 22 = .ok (.ireturn, 1) := by decide +kernel
theorem dL_goal_23 : decode cL_goal 23 = .ok (.iconst 0, 1) := by decide +kernel
theorem dL_goal_24 : decode cL_goal 24 = .ok (.ireturn, 1) := by decide +kernel
set_option maxRecDepth 20000 in
theorem ggL_set_X5_set : GoodIn wsL_set wsX5_set := goodIn_ca (goodIn_r _ [6, 7, 8, 9, 10, 5, 11, 12, 13, 14, 15, 16, 17, 18, 19, 20, 21, 22, 23, 24, 25, 26, 27, 28, 29, 30, 31, 32, 33, 34, 35, 36, 37, 38, 39, 40, 41, 42, 43, 44, 45, 46, 47, 48, 49, 50, 51, 52, 53, 54, 55, 56, 57, 58, 59, 60, 61, 62, 63, 64, 65, 66, 67, 68, 69, 70, 71, 72, 73, 74, 75, 76, 77, 78, 79, 80, 81, 82, 83, 84, 85, 86, 87, 88, 89, 90, 91, 92, 93, 94, 95, 96, 97, 98, 99, 100, 101, 102, 103, 104, 105, 106, 107, 108, 109, 110, 111, 112, 113, 114, 115, 116, 117, 118, 119, 120, 121, 122, 123, 124, 125, 126, 127, 128, 129, 130, 131, 132, 133, 134, 135, 136, 137, 138, 139, 140, 141, 142, 143, 144, 145, 146, 147, 148, 149, 150, 151, 152] (by decide +kernel) (by decide +kernel)) (goodIn_sub (fun _ h => List.mem_cons_of_mem _ (List.mem_append_right _ h)) (by decide +kernel))
set_option maxRecDepth 20000 in
theorem gL_set_X5_set : GoodIn wsL_set (wsV RL 39 RX5 yX5_set wsX5_set) := goodIn_app (goodIn_of _ (by decide +kernel)) ggL_set_X5_set
theorem dL_set_0 : decode cL_set 0 = .ok (.aload_n 2, 1) := by decide +kernel
theorem dL_set_1 : decode cL_set 1 = .ok (.iconst 0, 1) := by decide +kernel
theorem dL_set_2 : decode cL_set 2 = .ok (.aload_n 0, 1) := by decide +kernel
theorem dL_set_3 : decode cL_set 3 = .ok (.iload_n 1, 1) := by decide +kernel
theorem dL_set_4 : decode cL_set 4 = .ok (.invokevirtual 39, 3) := by decide +kernel
theorem dL_set_7 : decode cL_set 7 = .ok (.i2l, 1) := by decide +kernel
theorem dL_set_8 : decode cL_set 8 = .ok (.lastore, 1) := by decide +kernel
theorem dL_set_9 : decode cL_set 9 = .ok (.goto 6, 3) := by decide +kernel
theorem dL_set_12 : decode cL_set 12 = .ok (.astore_n 3, 1) := by decide +kernel
theorem dL_set_13 : decode cL_set 13 = .ok (.iconst 1, 1) := by decide +kernel
theorem dL_set_14 : decode cL_set 14 = .ok (.ireturn, 1) := by decide +kernel
theorem dL_set_15 : decode cL_set 15 = .ok (.iconst 0, 1) := by decide +kernel
theorem dL_set_16 : decode cL_set 16 = .ok (.ireturn, 1) := by decide +kernel
set_option maxRecDepth 20000 in
theorem ggL_append_X5_append : GoodIn wsL_append wsX5_append := goodIn_ca (goodIn_ca (goodIn_r _ [7, 8, 9, 10, 11, 12, 6, 13, 14, 15, 16, 17, 18, 19, 20, 21, 22, 23, 24, 25, 26, 27, 28, 29, 30, 31, 32, 33, 34, 35] (by decide +kernel) (by decide +kernel)) (goodIn_sub (fun _ h => List.mem_cons_of_mem _ (List.mem_append_left _ (List.mem_append_right _ h))) (by decide +kernel))) (goodIn_sub (fun _ h => List.mem_cons_of_mem _ (List.mem_append_right _ h)) (by decide +kernel))
set_option maxRecDepth 20000 in
theorem gL_append_X5_append : GoodIn wsL_append (wsV RL 42 RX5 yX5_append wsX5_append) := goodIn_app (goodIn_of _ (by decide +kernel)) ggL_append_X5_append
theorem dL_append_0 : decode cL_append 0 = .ok (.aload_n 2, 1) := by decide +kernel
theorem dL_append_1 : decode cL_append 1 = .ok (.iconst 0, 1) := by decide +kernel
theorem dL_append_2 : decode cL_append 2 = .ok (.aload_n 0, 1) := by decide +kernel
theorem dL_append_3 : decode cL_append 3 = .ok (.iload_n 1, 1) := by decide +kernel
theorem dL_append_4 : decode cL_append 4 = .ok (.invokevirtual 42, 3) := by decide +kernel
theorem dL_append_7 : decode cL_append 7 = .ok (.i2l, 1) := by decide +kernel
theorem dL_append_8 : decode cL_append 8 = .ok (.lastore, 1) := by decide +kernel
theorem dL_append_9 : decode cL_append 9 = .ok (.goto 9, 3) := by decide +kernel
theorem dL_append_12 : decode cL_append 12 = .ok (.astore_n 3, 1) := by decide +kernel
theorem dL_append_13 : decode cL_append 13 = .ok (.iconst 1, 1) := by decide +kernel
theorem dL_append_14 : decode cL_append 14 = .ok (.ireturn, 1) := by decide +kernel
theorem dL_append_15 : decode cL_append 15 = .ok (.astore_n 3, 1) := by decide +kernel
theorem dL_append_16 : decode cL_append 16 = .ok (.iconst 2, 1) := by decide +kernel
theorem dL_append_17 : decode cL_append 17 = .ok (.ireturn, 1) := by decide +kernel
theorem dL_append_18 : decode cL_append 18 = .ok (.iconst 0, 1) := by decide +kernel
theorem dL_append_19 : decode cL_append 19 = .ok (.ireturn, 1) := by decide +kernel
set_option maxRecDepth 20000 in
theorem ggL_build_X5_build : GoodIn wsL_build wsX5_build := goodIn_ca (goodIn_r _ [6, 7, 8, 9, 10, 11, 12, 13, 14, 15, 16, 17, 18, 19, 20, 21, 22, 23, 24, 25, 26, 27, 28, 29, 30, 31, 32, 33, 34, 35, 36, 37, 38, 39, 40, 41, 42, 43, 5, 44, 45, 46, 47, 48, 49, 50, 51, 52, 53, 54, 55, 56, 57, 58, 59, 60, 61, 62, 63, 64, 65, 66, 67, 68, 69, 70, 71, 72, 73, 74, 75, 76, 77, 78, 79, 80, 81, 82, 83, 84, 85, 86, 87, 88, 89, 90, 91, 92, 93, 94, 95, 96, 97, 98, 99, 100, 101, 102, 103, 104, 105, 106, 107, 108, 109, 110, 111, 112, 113, 114, 115, 116, 117, 118, 119, 120, 121, 122, 123, 124, 125, 126, 127, 128, 129, 130, 131, 132, 133, 134, 135, 136, 137, 138, 139, 140, 141, 142, 143, 144, 145, 146, 147, 148, 149, 150, 151, 152, 153, 154, 155, 156, 157, 158, 159, 160, 161, 162, 163, 164, 165, 166, 167, 168, 169, 170, 171, 172, 173, 174, 175, 176, 177, 178, 179, 180, 181, 182, 183, 184, 185, 186, 187, 188, 189, 190, 191, 192, 193, 194, 195, 196, 197, 198, 199, 200, 201, 202, 203, 204, 205, 206, 207, 208, 209, 210, 211, 212, 213, 214, 215, 216, 217, 218, 219, 220, 221, 222, 223, 224, 225, 226, 227, 228, 229, 230] (by decide +kernel) (by decide +kernel)) (goodIn_sub (fun _ h => List.mem_cons_of_mem _ (List.mem_append_right _ h)) (by decide +kernel))
set_option maxRecDepth 20000 in
theorem gL_build_X5_build : GoodIn wsL_build (wsV RL 45 RX5 yX5_build wsX5_build) := goodIn_app (goodIn_of _ (by decide +kernel)) ggL_build_X5_build
theorem dL_build_0 : decode cL_build 0 = .ok (.aload_n 1, 1) := by decide +kernel
theorem dL_build_1 : decode cL_build 1 = .ok (.iconst 0, 1) := by decide +kernel
theorem dL_build_2 : decode cL_build 2 = .ok (.aload_n 0, 1) := by decide +kernel
theorem dL_build_3 : decode cL_build 3 = .ok (.invokevirtual 45, 3) := by decide +kernel
theorem dL_build_6 : decode cL_build 6 = .ok (.i2l, 1) := by decide +kernel
theorem dL_build_7 : decode cL_build 7 = .ok (.lastore, 1) := by decide +kernel
theorem dL_build_8 : decode cL_build 8 = .ok (.goto 6, 3) := by decide +kernel
theorem dL_build_11 : decode cL_build 11 = .ok (.astore_n 2, 1) := by decide +kernel
theorem dL_build_12 : decode cL_build 12 = .ok (.iconst 1, 1) := by decide +kernel
theorem dL_build_13 : decode cL_build 13 = .ok (.ireturn, 1) := by decide +kernel
theorem dL_build_14 : decode cL_build 14 = .ok (.iconst 0, 1) := by decide +kernel
theorem dL_build_15 : decode cL_build 15 = .ok (.ireturn, 1) := by decide +kernel
set_option maxRecDepth 20000 in
theorem ggL_undo_X5_undo : GoodIn wsL_undo wsX5_undo := goodIn_ca (goodIn_r _ [6, 7, 8, 9, 10, 11, 12, 13, 14, 15, 16, 17, 18, 19, 20, 21, 22, 23, 24, 25, 26, 27, 28, 29, 30, 31, 32, 33, 34, 35, 36, 37, 38, 39, 40, 41, 42, 43, 44, 45, 46, 47, 48, 49, 50, 51, 52, 53, 54, 55, 56, 57, 58, 59, 60, 61, 62, 63, 64, 65, 66, 67, 68, 69, 70, 71, 72, 73, 74, 75, 76, 77, 78, 79, 80, 81, 82, 83, 84, 85, 86, 87, 88, 89, 90, 91, 92, 93, 94, 95, 96, 97, 98, 99, 100, 101, 102, 103, 104, 5, 105, 106, 107, 108, 109, 110, 111, 112, 113, 114, 115, 116, 117, 118, 119, 120, 121, 122, 123, 124, 125, 126, 127, 128, 129, 130, 131, 132] (by decide +kernel) (by decide +kernel)) (goodIn_sub (fun _ h => List.mem_cons_of_mem _ (List.mem_append_right _ h)) (by decide +kernel))
set_option maxRecDepth 20000 in
theorem gL_undo_X5_undo : GoodIn wsL_undo (wsV RL 49 RX5 yX5_undo wsX5_undo) := goodIn_app (goodIn_of _ (by decide +kernel)) ggL_undo_X5_undo
theorem dL_undo_0 : decode cL_undo 0 = .ok (.aload_n 1, 1) := by decide +kernel
theorem dL_undo_1 : decode cL_undo 1 = .ok (.iconst 0, 1) := by decide +kernel
theorem dL_undo_2 : decode cL_undo 2 = .ok (.aload_n 0, 1) := by decide +kernel
theorem dL_undo_3 : decode cL_undo 3 = .ok (.invokevirtual 49, 3) := by decide +kernel
theorem dL_undo_6 : decode cL_undo 6 = .ok (.i2l, 1) := by decide +kernel
theorem dL_undo_7 : decode cL_undo 7 = .ok (.lastore, 1) := by decide +kernel
theorem dL_undo_8 : decode cL_undo 8 = .ok (.goto 6, 3) := by decide +kernel
theorem dL_undo_11 : decode cL_undo 11 = .ok (.astore_n 2, 1) := by decide +kernel
theorem dL_undo_12 : decode cL_undo 12 = .ok (.iconst 1, 1) := by decide +kernel
theorem dL_undo_13 : decode cL_undo 13 = .ok (.ireturn, 1) := by decide +kernel
theorem dL_undo_14 : decode cL_undo 14 = .ok (.iconst 0, 1) := by decide +kernel
theorem dL_undo_15 : decode cL_undo 15 = .ok (.ireturn, 1) := by decide +kernel
set_option maxRecDepth 20000 in
theorem ggL_peg_X5_peg : GoodIn wsL_peg wsX5_peg := goodIn_ca (goodIn_ca (goodIn_r _ [7, 8, 9, 10, 6, 11, 12, 13, 14, 15, 16, 17, 18, 19, 20, 21, 22, 23, 24, 25, 26, 27, 28, 29, 30, 31, 32, 33, 34, 35, 36, 37, 38, 39, 40, 41, 42, 43, 44, 45, 46, 47, 48, 49, 50, 51, 52, 53, 54, 55, 56, 57, 58, 59, 60, 61, 62, 63, 64, 65, 66, 67, 68, 69, 70, 71] (by decide +kernel) (by decide +kernel)) (goodIn_sub (fun _ h => List.mem_cons_of_mem _ (List.mem_append_left _ (List.mem_append_right _ h))) (by decide +kernel))) (goodIn_sub (fun _ h => List.mem_cons_of_mem _ (List.mem_append_right _ h)) (by decide +kernel))
set_option maxRecDepth 20000 in
theorem gL_peg_X5_peg : GoodIn wsL_peg (wsV RL 52 RX5 yX5_peg wsX5_peg) := goodIn_app (goodIn_of _ (by decide +kernel)) ggL_peg_X5_peg
theorem dL_peg_0 : decode cL_peg 0 = .ok (.aload_n 3, 1) := by decide +kernel
theorem dL_peg_1 : decode cL_peg 1 = .ok (.iconst 0, 1) := by decide +kernel
theorem dL_peg_2 : decode cL_peg 2 = .ok (.aload_n 0, 1) := by decide +kernel
theorem dL_peg_3 : decode cL_peg 3 = .ok (.iload_n 1, 1) := by decide +kernel
theorem dL_peg_4 : decode cL_peg 4 = .ok (.iload_n 2, 1) := by decide +kernel
theorem dL_peg_5 : decode cL_peg 5 = .ok (.invokevirtual 52, 3) := by decide +kernel
theorem dL_peg_8 : decode cL_peg 8 = .ok (.i2l, 1) := by decide +kernel
theorem dL_peg_9 : decode cL_peg 9 = .ok (.lastore, 1) := by decide +kernel
theorem dL_peg_10 : decode cL_peg 10 = .ok (.goto 11, 3) := by decide +kernel
theorem dL_peg_13 : decode cL_peg 13 = .ok (.astore 4, 2) := by decide +kernel
theorem dL_peg_15 : decode cL_peg 15 = .ok (.iconst 1, 1) := by decide +kernel
theorem dL_peg_16 : decode cL_peg 16 = .ok (.ireturn, 1) := by decide +kernel
theorem dL_peg_17 : decode cL_peg 17 = .ok (.astore 4, 2) := by decide +kernel
theorem dL_peg_19 : decode cL_peg 19 = .ok (.iconst 2, 1) := by decide +kernel
theorem dL_peg_20 : decode cL_peg 20 = .ok (.ireturn, 1) := by decide +kernel
theorem dL_peg_21 : decode cL_peg 21 = .ok (.iconst 0, 1) := by decide +kernel
theorem dL_peg_22 : decode cL_peg 22 = .ok (.ireturn, 1) := by decide +kernel
set_option maxRecDepth 20000 in
theorem ggL_speed_X5_speed : GoodIn wsL_speed wsX5_speed := goodIn_ca (goodIn_ca (goodIn_r _ [7, 8, 9, 10, 11, 6, 12, 13, 14, 15, 16, 17, 18, 19, 20, 21, 22, 23, 24, 25, 26, 27, 28, 29, 30, 31, 32, 33, 34, 35, 36, 37, 38, 39, 40, 41, 42, 43, 44, 45, 46, 47, 48, 49] (by decide +kernel) (by decide +kernel)) (goodIn_sub (fun _ h => List.mem_cons_of_mem _ (List.mem_append_left _ (List.mem_append_right _ h))) (by decide +kernel))) (goodIn_sub (fun _ h => List.mem_cons_of_mem _ (List.mem_append_right _ h)) (by decide +kernel))
set_option maxRecDepth 20000 in
theorem gL_speed_X5_speed : GoodIn wsL_speed (wsV RL 55 RX5 yX5_speed wsX5_speed) := goodIn_app (goodIn_of _ (by decide +kernel)) ggL_speed_X5_speed
theorem dL_speed_0 : decode cL_speed 0 = .ok (.aload_n 3, 1) := by decide +kernel
theorem dL_speed_1 : decode cL_speed 1 = .ok (.iconst 0, 1) := by decide +kernel
theorem dL_speed_2 : decode cL_speed 2 = .ok (.aload_n 0, 1) := by decide +kernel
theorem dL_speed_3 : decode cL_speed 3 = .ok (.iload_n 1, 1) := by decide +kernel
theorem dL_speed_4 : decode cL_speed 4 = .ok (.iload_n 2, 1) := by decide +kernel
theorem dL_speed_5 : decode cL_speed 5 = .ok (.invokevirtual 55, 3) := by decide +kernel
theorem dL_speed_8 : decode cL_speed 8 = .ok (.lastore, 1) := by decide +kernel
theorem dL_speed_9 : decode cL_speed 9 = .ok (.goto 11, 3) := by decide +kernel
theorem dL_speed_12 : decode cL_speed 12 = .ok (.astore 4, 2) := by decide +kernel
theorem dL_speed_14 : decode cL_speed 14 = .ok (.iconst 1, 1) := by decide +kernel
theorem dL_speed_15 : decode cL_speed 15 = .ok (.ireturn, 1) := by decide +kernel
theorem dL_speed_16 : decode cL_speed 16 = .ok (.astore 4, 2) := by decide +kernel
theorem dL_speed_18 : decode cL_speed 18 = .ok (.iconst 2, 1) := by decide +kernel
theorem dL_speed_19 : decode cL_speed 19 = .ok (.ireturn, 1) := by decide +kernel
theorem dL_speed_20 : decode cL_speed 20 = .ok (.iconst 0, 1) := by decide +kernel
theorem dL_speed_21 : decode cL_speed 21 = .ok (.ireturn, 1) := by decide +kernel
set_option maxRecDepth 20000 in
theorem ggL_meshes_X5_meshes : GoodIn wsL_meshes wsX5_meshes := goodIn_ca (goodIn_r _ [6, 7, 8, 9, 10, 5, 11, 12, 13, 14, 15, 16, 17, 18, 19, 20, 21, 22, 23, 24, 25, 26, 27, 28, 29, 30, 31, 32, 33, 34, 35, 36, 37, 38, 39, 40, 41, 42, 43, 44, 45, 46, 47, 48] (by decide +kernel) (by decide +kernel)) (goodIn_sub (fun _ h => List.mem_cons_of_mem _ (List.mem_append_right _ h)) (by decide +kernel))
set_option maxRecDepth 20000 in
theorem gL_meshes_X5_meshes : GoodIn wsL_meshes (wsV RL 59 RX5 yX5_meshes wsX5_meshes) := goodIn_app (goodIn_of _ (by decide +kernel)) ggL_meshes_X5_meshes
theorem dL_meshes_0 : decode cL_meshes 0 = .ok (.aload_n 3, 1) := by decide +kernel
theorem dL_meshes_1 : decode cL_meshes 1 = .ok (.iconst 0, 1) := by decide +kernel
theorem dL_meshes_2 : decode cL_meshes 2 = .ok (.aload_n 0, 1) := by decide +kernel
theorem dL_meshes_3 : decode cL_meshes 3 = .ok (.iload_n 1, 1) := by decide +kernel
theorem dL_meshes_4 : decode cL_meshes 4 = .ok (.iload_n 2, 1) := by decide +kernel
theorem dL_meshes_5 : decode cL_meshes 5 = .ok (.invokevirtual 59, 3) := by decide +kernel
theorem dL_meshes_8 : decode cL_meshes 8 = .ok (.i2l, 1) := by decide +kernel
theorem dL_meshes_9 : decode cL_meshes 9 = .ok (.lastore, 1) := by decide +kernel
theorem dL_meshes_10 : decode cL_meshes 10 = .ok (.goto 7, 3) := by decide +kernel
theorem dL_meshes_13 : decode cL_meshes 13 = .ok (.astore 4, 2) := by decide +kernel
theorem dL_meshes_15 : decode cL_meshes 15 = .ok (.iconst 1, 1) := by decide +kernel
theorem dL_meshes_16 : decode cL_meshes 16 = .ok (.ireturn, 1) := by decide +kernel
theorem dL_meshes_17 : decode cL_meshes 17 = .ok (.iconst 0, 1) := by decide +kernel
theorem dL_meshes_18 : decode cL_meshes 18 = .ok (.ireturn, 1) := by decide +kernel
set_option maxRecDepth 20000 in
theorem ggL_train_X5_train : GoodIn wsL_train wsX5_train := goodIn_ca (goodIn_ca (goodIn_r _ [7, 8, 9, 10, 11, 12, 13, 6, 14, 15, 16, 17, 18, 19, 20, 21, 22, 23, 24, 25, 26, 27, 28, 29, 30, 31, 32, 33, 34, 35, 36, 37, 38, 39, 40, 41, 42, 43, 44, 45, 46, 47, 48, 49, 50, 51, 52, 53, 54, 55, 56, 57, 58, 59, 60, 61, 62, 63, 64, 65, 66, 67, 68, 69, 70, 71, 72, 73, 74, 75, 76, 77, 78, 79, 80, 81, 82, 83, 84, 85, 86, 87, 88, 89, 90, 91, 92, 93, 94, 95, 96, 97, 98, 99, 100, 101, 102, 103, 104, 105, 106, 107, 108] (by decide +kernel) (by decide +kernel)) (goodIn_sub (fun _ h => List.mem_cons_of_mem _ (List.mem_append_left _ (List.mem_append_right _ h))) (by decide +kernel))) (goodIn_sub (fun _ h => List.mem_cons_of_mem _ (List.mem_append_right _ h)) (by decide +kernel))
set_option maxRecDepth 20000 in
theorem gL_train_X5_train : GoodIn wsL_train (wsV RL 62 RX5 yX5_train wsX5_train) := goodIn_app (goodIn_of _ (by decide +kernel)) ggL_train_X5_train
theorem dL_train_0 : decode cL_train 0 = .ok (.aload 4, 2) := by decide +kernel
theorem dL_train_2 : decode cL_train 2 = .ok (.iconst 0, 1) := by decide +kernel
theorem dL_train_3 : decode cL_train 3 = .ok (.aload_n 0, 1) := by decide +kernel
theorem dL_train_4 : decode cL_train 4 = .ok (.iload_n 1, 1) := by decide +kernel
theorem dL_train_5 : decode cL_train 5 = .ok (.iload_n 2, 1) := by decide +kernel
theorem dL_train_6 : decode cL_train 6 = .ok (.iload_n 3, 1) := by decide +kernel
theorem dL_train_7 : decode cL_train 7 = .ok (.invokevirtual 62, 3) := by decide +kernel
theorem dL_train_10 : decode cL_train 10 = .ok (.i2l, 1) := by decide +kernel
theorem dL_train_11 : decode cL_train 11 = .ok (.lastore, 1) := by decide +kernel
theorem dL_train_12 : decode cL_train 12 = .ok (.goto 11, 3) := by decide +kernel
theorem dL_train_15 : decode cL_train 15 = .ok (.astore 5, 2) := by decide +kernel
theorem dL_train_17 : decode cL_train 17 = .ok (.iconst 1, 1) := by decide +kernel
theorem dL_train_18 : decode cL_train 18 = .ok (.ireturn, 1) := by decide +kernel
theorem dL_train_19 : decode cL_train 19 = .ok (.astore 5, 2) := by decide +kernel
theorem dL_train_21 : decode cL_train 21 = .ok (.iconst 2, 1) := by decide +kernel
theorem dL_train_22 : decode cL_train 22 = .ok (.ireturn, 1) := by decide +kernel
theorem dL_train_23 : decode cL_train 23 = .ok (.iconst 0, 1) := by decide +kernel
theorem dL_train_24 : decode cL_train 24 = .ok (.ireturn, 1) := by decide +kernel
set_option maxRecDepth 20000 in
theorem ggL_ratio_X5_ratio : GoodIn wsL_ratio wsX5_ratio := goodIn_ca (goodIn_ca (goodIn_r _ [7, 8, 9, 10, 11, 12, 13, 6, 14, 15, 16, 17, 18, 19, 20, 21, 22, 23, 24, 25, 26, 27, 28, 29, 30, 31, 32, 33, 34, 35, 36, 37, 38, 39, 40, 41, 42, 43, 44, 45, 46, 47, 48, 49, 50, 51, 52, 53, 54, 55, 56, 57, 58, 59, 60, 61, 62, 63, 64, 65, 66, 67, 68, 69, 70, 71, 72, 73, 74, 75, 76, 77, 78, 79, 80, 81, 82, 83, 84, 85, 86, 87, 88, 89, 90, 91, 92, 93, 94, 95, 96, 97, 98, 99, 100, 101] (by decide +kernel) (by decide +kernel)) (goodIn_sub (fun _ h => List.mem_cons_of_mem _ (List.mem_append_left _ (List.mem_append_right _ h))) (by decide +kernel))) (goodIn_sub (fun _ h => List.mem_cons_of_mem _ (List.mem_append_right _ h)) (by decide +kernel))
set_option maxRecDepth 20000 in
theorem gL_ratio_X5_ratio : GoodIn wsL_ratio (wsV RL 65 RX5 yX5_ratio wsX5_ratio) := goodIn_app (goodIn_of _ (by decide +kernel)) ggL_ratio_X5_ratio
theorem dL_ratio_0 : decode cL_ratio 0 = .ok (.aload 4, 2) := by decide +kernel
theorem dL_ratio_2 : decode cL_ratio 2 = .ok (.iconst 0, 1) := by decide +kernel
theorem dL_ratio_3 : decode cL_ratio 3 = .ok (.aload_n 0, 1) := by decide +kernel
theorem dL_ratio_4 : decode cL_ratio 4 = .ok (.iload_n 1, 1) := by decide +kernel
theorem dL_ratio_5 : decode cL_ratio 5 = .ok (.iload_n 2, 1) := by decide +kernel
theorem dL_ratio_6 : decode cL_ratio 6 = .ok (.iload_n 3, 1) := by decide +kernel
theorem dL_ratio_7 : decode cL_ratio 7 = .ok (.invokevirtual 65, 3) := by decide +kernel
theorem dL_ratio_10 : decode cL_ratio 10 = .ok (.lastore, 1) := by decide +kernel
theorem dL_ratio_11 : decode cL_ratio 11 = .ok (.goto 11, 3) := by decide +kernel
theorem dL_ratio_14 : decode cL_ratio 14 = .ok (.astore 5, 2) := by decide +kernel
theorem dL_ratio_16 : decode cL_ratio 16 = .ok (.iconst 1, 1) := by decide +kernel
theorem dL_ratio_17 : decode cL_ratio 17 = .ok (.ireturn, 1) := by decide +kernel
theorem dL_ratio_18 : decode cL_ratio 18 = .ok (.astore 5, 2) := by decide +kernel
theorem dL_ratio_20 : decode cL_ratio 20 = .ok (.iconst 2, 1) := by decide +kernel
theorem dL_ratio_21 : decode cL_ratio 21 = .ok (.ireturn, 1) := by decide +kernel
theorem dL_ratio_22 : decode cL_ratio 22 = .ok (.iconst 0, 1) := by decide +kernel
theorem dL_ratio_23 : decode cL_ratio 23 = .ok (.ireturn, 1) := by decide +kernel
set_option maxRecDepth 20000 in
theorem ggL_count_X5_count : GoodIn wsL_count wsX5_count := goodIn_ca (goodIn_r _ [6, 7, 8, 5, 9, 10, 11, 12, 13, 14, 15, 16, 17, 18, 19, 20, 21, 22, 23, 24, 25, 26, 27, 28, 29, 30, 31, 32, 33, 34, 35, 36, 37, 38, 39, 40, 41, 42, 43, 44, 45, 46, 47, 48, 49, 50, 51, 52, 53, 54, 55, 56, 57, 58, 59, 60, 61, 62, 63, 64, 65, 66, 67, 68, 69, 70, 71, 72, 73, 74, 75, 76, 77, 78, 79, 80, 81, 82, 83, 84, 85, 86, 87, 88, 89, 90, 91, 92, 93, 94, 95, 96, 97, 98, 99, 100, 101, 102, 103, 104, 105] (by decide +kernel) (by decide +kernel)) (goodIn_sub (fun _ h => List.mem_cons_of_mem _ (List.mem_append_right _ h)) (by decide +kernel))
set_option maxRecDepth 20000 in
theorem gL_count_X5_count : GoodIn wsL_count (wsV RL 69 RX5 yX5_count wsX5_count) := goodIn_app (goodIn_of _ (by decide +kernel)) ggL_count_X5_count
theorem dL_count_0 : decode cL_count 0 = .ok (.aload_n 2, 1) := by decide +kernel
theorem dL_count_1 : decode cL_count 1 = .ok (.iconst 0, 1) := by decide +kernel
theorem dL_count_2 : decode cL_count 2 = .ok (.aload_n 0, 1) := by decide +kernel
theorem dL_count_3 : decode cL_count 3 = .ok (.iload_n 1, 1) := by decide +kernel
theorem dL_count_4 : decode cL_count 4 = .ok (.invokevirtual 69, 3) := by decide +kernel
theorem dL_count_7 : decode cL_count 7 = .ok (.i2l, 1) := by decide +kernel
theorem dL_count_8 : decode cL_count 8 = .ok (.lastore, 1) := by decide +kernel
theorem dL_count_9 : decode cL_count 9 = .ok (.goto 6, 3) := by decide +kernel
theorem dL_count_12 : decode cL_count 12 = .ok (.astore_n 3, 1) := by decide +kernel
theorem dL_count_13 : decode cL_count 13 = .ok (.iconst 1, 1) := by decide +kernel
theorem dL_count_14 : decode cL_count 14 = .ok (.ireturn, 1) := by decide +kernel
theorem dL_count_15 : decode cL_count 15 = .ok (.iconst 0, 1) := by decide +kernel
theorem dL_count_16 : decode cL_count 16 = .ok (.ireturn, 1) := by decide +kernel
set_option maxRecDepth 20000 in
theorem ggL_ifPut_X5_ifPut : GoodIn wsL_ifPut wsX5_ifPut := goodIn_ca (goodIn_ca (goodIn_r _ [7, 8, 9, 10, 11, 12, 6, 13, 14, 15, 16, 17, 18, 19, 20, 21, 22, 23, 24, 25, 26, 27, 28, 29, 30, 31, 32, 33, 34, 35, 36, 37, 38, 39, 40, 41, 42, 43, 44, 45, 46, 47, 48, 49, 50, 51, 52, 53, 54, 55, 56, 57, 58, 59, 60, 61, 62, 63, 64, 65, 66, 67, 68, 69, 70, 71, 72, 73, 74, 75, 76, 77, 78, 79, 80, 81, 82, 83, 84, 85, 86, 87, 88, 89, 90, 91, 92, 93, 94, 95, 96, 97, 98, 99, 100, 101, 102, 103, 104, 105, 106, 107, 108, 109, 110, 111, 112, 113, 114, 115, 116, 117, 118, 119, 120, 121, 122, 123, 124, 125, 126, 127, 128, 129, 130, 131, 132, 133, 134, 135, 136, 137, 138, 139, 140, 141, 142, 143, 144, 145, 146, 147, 148, 149, 150, 151, 152, 153, 154, 155, 156, 157, 158, 159, 160, 161, 162, 163, 164, 165] (by decide +kernel) (by decide +kernel)) (goodIn_sub (fun _ h => List.mem_cons_of_mem _ (List.mem_append_left _ (List.mem_append_right _ h))) (by decide +kernel))) (goodIn_sub (fun _ h => List.mem_cons_of_mem _ (List.mem_append_right _ h)) (by decide +kernel))
set_option maxRecDepth 20000 in
theorem gL_ifPut_X5_ifPut : GoodIn wsL_ifPut (wsV RL 72 RX5 yX5_ifPut wsX5_ifPut) := goodIn_app (goodIn_of _ (by decide +kernel)) ggL_ifPut_X5_ifPut
theorem dL_ifPut_0 : decode cL_ifPut 0 = .ok (.aload 5, 2) := by decide +kernel
theorem dL_ifPut_2 : decode cL_ifPut 2 = .ok (.iconst 0, 1) := by decide +kernel
theorem dL_ifPut_3 : decode cL_ifPut 3 = .ok (.aload_n 0, 1) := by decide +kernel
theorem dL_ifPut_4 : decode cL_ifPut 4 = .ok (.iload_n 1, 1) := by decide +kernel
theorem dL_ifPut_5 : decode cL_ifPut 5 = .ok (.iload_n 2, 1) := by decide +kernel
theorem dL_ifPut_6 : decode cL_ifPut 6 = .ok (.iload_n 3, 1) := by decide +kernel
theorem dL_ifPut_7 : decode cL_ifPut 7 = .ok (.iload 4, 2) := by decide +kernel
theorem dL_ifPut_9 : decode cL_ifPut 9 = .ok (.invokevirtual 72, 3) := by decide +kernel
theorem dL_ifPut_12 : decode cL_ifPut 12 = .ok (.i2l, 1) := by decide +kernel
theorem dL_ifPut_13 : decode cL_ifPut 13 = .ok (.lastore, 1) := by decide +kernel
theorem dL_ifPut_14 : decode cL_ifPut 14 = .ok (.goto 11, 3) := by decide +kernel
theorem dL_ifPut_17 : decode cL_ifPut 17 = .ok (.astore 6, 2) := by decide +kernel
theorem dL_ifPut_19 : decode cL_ifPut 19 = .ok (.iconst 1, 1) := by decide +kernel
theorem dL_ifPut_20 : decode cL_ifPut 20 = .ok (.ireturn, 1) := by decide +kernel
theorem dL_ifPut_21 : decode cL_ifPut 21 = .ok (.astore 6, 2) := by decide +kernel
theorem dL_ifPut_23 : decode cL_ifPut 23 = .ok (.iconst 2, 1) := by decide +kernel
theorem dL_ifPut_24 : decode cL_ifPut 24 = .ok (.ireturn, 1) := by decide +kernel
theorem dL_ifPut_25 : decode cL_ifPut 25 = .ok (.iconst 0, 1) := by decide +kernel
theorem dL_ifPut_26 : decode cL_ifPut 26 = .ok (.ireturn, 1) := by decide +kernel
set_option maxRecDepth 20000 in
theorem ggL_solution_X5_solution : GoodIn wsL_solution wsX5_solution := goodIn_ca (goodIn_r _ [6, 7, 8, 5, 9, 10, 11, 12, 13, 14, 15, 16, 17, 18, 19, 20, 21, 22, 23, 24, 25, 26, 27, 28, 29, 30, 31, 32, 33, 34, 35, 36, 37, 38, 39, 40, 41, 42, 43, 44, 45, 46, 47, 48, 49, 50, 51, 52, 53, 54, 55, 56, 57, 58, 59, 60, 61, 62, 63, 64, 65, 66, 67, 68, 69, 70, 71, 72, 73, 74, 75, 76, 77, 78, 79, 80, 81, 82, 83, 84, 85, 86, 87, 88, 89, 90, 91, 92, 93, 94, 95, 96, 97, 98, 99, 100, 101, 102, 103, 104, 105, 106, 107, 108, 109, 110, 111, 112, 113, 114, 115, 116, 117, 118, 119, 120, 121, 122, 123, 124, 125, 126, 127, 128, 129, 130, 131, 132, 133, 134, 135, 136, 137, 138, 139, 140, 141, 142, 143, 144, 145, 146, 147, 148, 149, 150, 151, 152, 153, 154, 155, 156, 157] (by decide +kernel) (by decide +kernel)) (goodIn_sub (fun _ h => List.mem_cons_of_mem _ (List.mem_append_right _ h)) (by decide +kernel))
set_option maxRecDepth 20000 in
theorem gL_solution_X5_solution : GoodIn wsL_solution (wsV RL 76 RX5 yX5_solution wsX5_solution) := goodIn_app (goodIn_of _ (by decide +kernel)) ggL_solution_X5_solution
theorem dL_solution_0 : decode cL_solution 0 = .ok (.aload_n 2, 1) := by decide +kernel
theorem dL_solution_1 : decode cL_solution 1 = .ok (.iconst 0, 1) := by decide +kernel
theorem dL_solution_2 : decode cL_solution 2 = .ok (.aload_n 0, 1) := by decide +kernel
theorem dL_solution_3 : decode cL_solution 3 = .ok (.iload_n 1, 1) := by decide +kernel
theorem dL_solution_4 : decode cL_solution 4 = .ok (.invokevirtual 76, 3) := by decide +kernel
theorem dL_solution_7 : decode cL_solution 7 = .ok (.i2l, 1) := by decide +kernel
theorem dL_solution_8 : decode cL_solution 8 = .ok (.lastore, 1) := by decide +kernel
theorem dL_solution_9 : decode cL_solution 9 = .ok (.goto 6, 3) := by decide +kernel
theorem dL_solution_12 : decode cL_solution 12 = .ok (.astore_n 3, 1) := by decide +kernel
theorem dL_solution_13 : decode cL_solution 13 = .ok (.iconst 1, 1) := by decide +kernel
theorem dL_solution_14 : decode cL_solution 14 = .ok (.ireturn, 1) := by decide +kernel
theorem dL_solution_15 : decode cL_solution 15 = .ok (.iconst 0, 1) := by decide +kernel
theorem dL_solution_16 : decode cL_solution 16 = .ok (.ireturn, 1) := by decide +kernel
set_option maxRecDepth 20000 in
theorem ggL_law_X5_init : GoodIn wsL_law wsX5_init := goodIn_r _ [9, 10, 11, 12, 13, 14, 15, 16, 17, 18, 19, 20, 21, 22, 23, 24, 25, 26, 27, 28, 29, 30, 31, 32, 33, 34, 35, 36, 37, 38, 39, 40, 41, 42, 43, 44, 45, 46, 47, 48, 49, 50, 51, 52, 6, 53, 54, 55, 56, 57, 58, 59, 60, 61, 62, 63, 64, 65, 66, 67, 68, 69, 70, 71, 72, 73, 74, 75, 76, 77, 78, 79, 80, 81, 82, 83, 84, 85, 910, 911, 912, 913, 914, 915, 916, 917, 918, 919, 882, 883, 884, 885, 886, 887, 888, 920, 921, 922, 923, 924, 925, 926, 927, 928, 929, 930, 931, 932, 933, 934, 935, 936, 937, 938, 939, 940, 941, 942] (by decide +kernel) (by decide +kernel)
set_option maxRecDepth 20000 in
theorem gL_law_X5_init : GoodIn wsL_law (wsX5_init) := ggL_law_X5_init
set_option maxRecDepth 20000 in
theorem ggL_law_X6_init : GoodIn wsL_law wsX6_init := goodIn_r _ [88, 89, 11, 12, 38, 90, 91, 92, 93, 6, 94, 95, 55, 96, 97, 98, 99, 889, 890, 891, 892, 893, 894, 895, 896, 897, 898, 899, 900, 901, 902, 903, 904, 905, 906, 907, 908, 909] (by decide +kernel) (by decide +kernel)
set_option maxRecDepth 20000 in
theorem gL_law_X6_init : GoodIn wsL_law (wsX6_init) := ggL_law_X6_init
set_option maxRecDepth 20000 in
theorem ggL_law_L_addPeg : GoodIn wsL_law wsL_addPeg := goodIn_ca (goodIn_ca (goodIn_r _ [103, 104, 105, 106, 107, 108, 2, 109, 110, 111, 21, 16, 112, 113, 114, 115, 116, 117, 118, 119, 120, 121, 122, 123, 124, 15, 125, 126, 39, 127, 128, 129, 130, 40, 41, 42, 43, 44, 45, 46, 47, 48, 131, 132, 133, 134, 135, 136, 137, 138, 139, 140, 141, 142, 143, 144, 145, 146, 147, 148, 34, 20, 149, 33, 150, 151, 85, 84, 83, 82, 14, 35, 36, 37, 11, 12, 38, 152, 19, 153, 154, 56, 58, 59, 57, 155, 156, 157, 158, 52, 159, 160, 161, 162, 163, 164, 165, 166, 167, 168, 169, 170, 171, 172, 173, 174, 175, 176, 177, 178, 179, 180, 181, 53, 54, 182, 183, 184, 185, 186, 187, 188, 189, 190, 191, 192, 193, 194, 195, 196, 197, 198, 199, 200, 201, 202, 203, 204, 205, 206, 207, 208, 209, 882, 883, 884, 885, 886, 887, 888, 910, 911, 912, 913, 914, 915, 916, 917, 918, 919, 940, 941, 942, 920, 921, 922, 923, 924, 925, 926] (by decide +kernel) (by decide +kernel)) (goodIn_sub (fun _ h => List.mem_append_left _ (List.mem_append_left _ (List.mem_append_right _ h))) (by decide +kernel))) (goodIn_sub (fun _ h => List.mem_append_left _ (List.mem_append_right _ h)) (by decide +kernel))
set_option maxRecDepth 20000 in
theorem gL_law_L_addPeg : GoodIn wsL_law (va_wsS RL 83 yL_addPeg wsL_addPeg) := goodIn_app (goodIn_of _ (by decide +kernel)) ggL_law_L_addPeg
set_option maxRecDepth 20000 in
theorem ggL_law_X6_addPeg : GoodIn wsL_law wsX6_addPeg := goodIn_r _ [213, 214, 215, 216, 5, 217, 90, 218, 219, 220, 221, 222, 223, 224, 225, 226, 227, 228, 229, 230, 231, 232, 233, 234, 235, 236, 237, 92, 238, 239, 240, 241, 242, 243, 244, 245, 889, 890, 891, 892, 893, 894, 895, 896, 897, 898, 899, 900, 901, 902, 903, 904, 905, 906, 907, 908, 909] (by decide +kernel) (by decide +kernel)
set_option maxRecDepth 20000 in
theorem gL_law_X6_addPeg : GoodIn wsL_law (wsV RL 88 RX6 yX6_addPeg wsX6_addPeg) := goodIn_app (goodIn_of _ (by decide +kernel)) ggL_law_X6_addPeg
set_option maxRecDepth 20000 in
theorem ggL_law_X6_thrown : GoodIn wsL_law wsX6_thrown := goodIn_r _ [249, 232, 889, 890, 891, 892, 893, 894, 895, 896, 897, 898, 899, 900, 901, 902, 903, 904, 905, 906, 907, 908, 909] (by decide +kernel) (by decide +kernel)
set_option maxRecDepth 20000 in
theorem gL_law_X6_thrown : GoodIn wsL_law (wsV RL 89 RX6 yX6_thrown wsX6_thrown) := goodIn_app (goodIn_of _ (by decide +kernel)) ggL_law_X6_thrown
set_option maxRecDepth 20000 in
theorem ggL_law_L_putGear : GoodIn wsL_law wsL_putGear := goodIn_ca (goodIn_ca (goodIn_ca (goodIn_r _ [252, 253, 104, 105, 254, 255, 256, 2, 257, 258, 259, 260, 261, 262, 263, 16, 182, 15, 183, 184, 43, 264, 265, 266, 267, 268, 269, 115, 116, 117, 118, 119, 270, 271, 272, 273, 274, 275, 276, 110, 111, 21, 120, 121, 122, 123, 124, 125, 126, 39, 127, 128, 129, 130, 40, 41, 42, 44, 45, 46, 47, 48, 277, 278, 279, 280, 142, 143, 144, 138, 139, 140, 141, 281, 282, 283, 284, 285, 286, 287, 288, 166, 167, 168, 169, 162, 163, 164, 165, 170, 171, 172, 173, 174, 175, 176, 177, 145, 146, 147, 148, 34, 20, 149, 33, 150, 151, 85, 84, 83, 82, 14, 35, 36, 37, 11, 12, 38, 152, 19, 153, 154, 56, 58, 59, 57, 155, 156, 157, 158, 52, 159, 160, 161, 178, 179, 180, 181, 53, 54, 185, 186, 187, 188, 189, 190, 191, 192, 193, 194, 195, 196, 197, 198, 199, 200, 201, 202, 203, 204, 205, 206, 207, 208, 209, 289, 290, 291, 292, 882, 883, 884, 885, 886, 887, 888, 910, 911, 912, 913, 914, 915, 916, 917, 918, 919, 940, 941, 942, 920, 921, 922, 923, 924, 925, 926] (by decide +kernel) (by decide +kernel)) (goodIn_sub (fun _ h => List.mem_append_right _ h) (by decide +kernel))) (goodIn_sub (fun _ h => List.mem_append_left _ (List.mem_append_right _ h)) (by decide +kernel))) (goodIn_sub (fun _ h => List.mem_append_left _ (List.mem_append_left _ (List.mem_append_right _ h))) (by decide +kernel))
set_option maxRecDepth 20000 in
theorem gL_law_L_putGear : GoodIn wsL_law (va_wsS RL 92 yL_putGear wsL_putGear) := goodIn_app (goodIn_of _ (by decide +kernel)) ggL_law_L_putGear
set_option maxRecDepth 20000 in
theorem ggL_law_X6_putGear : GoodIn wsL_law wsX6_putGear := goodIn_r _ [296, 297, 298, 299, 5, 300, 301, 302, 303, 304, 90, 221, 222, 223, 305, 306, 307, 308, 309, 310, 311, 312, 242, 243, 244, 245, 313, 314, 315, 316, 317, 318, 319, 320, 321, 322, 323, 324, 325, 326, 327, 228, 229, 230, 231, 232, 233, 234, 235, 236, 237, 92, 328, 329, 330, 331, 332, 333, 334, 335, 336, 337, 338, 339, 340, 341, 342, 343, 889, 890, 891, 892, 893, 894, 895, 896, 897, 898, 899, 900, 901, 902, 903, 904, 905, 906, 907, 908, 909] (by decide +kernel) (by decide +kernel)
set_option maxRecDepth 20000 in
theorem gL_law_X6_putGear : GoodIn wsL_law (wsV RL 95 RX6 yX6_putGear wsX6_putGear) := goodIn_app (goodIn_of _ (by decide +kernel)) ggL_law_X6_putGear
set_option maxRecDepth 20000 in
theorem ggL_law_L_putRing : GoodIn wsL_law wsL_putRing := goodIn_ca (goodIn_ca (goodIn_ca (goodIn_r _ [346, 253, 104, 105, 347, 348, 349, 2, 350, 258, 259, 260, 261, 262, 263, 16, 182, 15, 183, 184, 43, 264, 265, 266, 115, 116, 117, 118, 119, 273, 274, 275, 276, 110, 111, 21, 120, 121, 122, 123, 124, 125, 126, 39, 127, 128, 129, 130, 40, 41, 42, 44, 45, 46, 47, 48, 277, 278, 279, 280, 142, 143, 144, 138, 139, 140, 141, 281, 282, 283, 284, 285, 286, 287, 288, 166, 167, 168, 169, 162, 163, 164, 165, 170, 171, 172, 173, 174, 175, 176, 177, 145, 146, 147, 148, 34, 20, 149, 33, 150, 151, 85, 84, 83, 82, 14, 35, 36, 37, 11, 12, 38, 152, 19, 153, 154, 56, 58, 59, 57, 155, 156, 157, 158, 52, 159, 160, 161, 178, 179, 180, 181, 53, 54, 185, 186, 187, 188, 189, 190, 191, 192, 193, 194, 195, 196, 197, 198, 199, 200, 201, 202, 203, 204, 205, 206, 207, 208, 209, 289, 290, 291, 292, 882, 883, 884, 885, 886, 887, 888, 910, 911, 912, 913, 914, 915, 916, 917, 918, 919, 940, 941, 942, 920, 921, 922, 923, 924, 925, 926] (by decide +kernel) (by decide +kernel)) (goodIn_sub (fun _ h => List.mem_append_right _ h) (by decide +kernel))) (goodIn_sub (fun _ h => List.mem_append_left _ (List.mem_append_right _ h)) (by decide +kernel))) (goodIn_sub (fun _ h => List.mem_append_left _ (List.mem_append_left _ (List.mem_append_right _ h))) (by decide +kernel))
set_option maxRecDepth 20000 in
theorem gL_law_L_putRing : GoodIn wsL_law (va_wsS RL 96 yL_putRing wsL_putRing) := goodIn_app (goodIn_of _ (by decide +kernel)) ggL_law_L_putRing
set_option maxRecDepth 20000 in
theorem ggL_law_X6_putRing : GoodIn wsL_law wsX6_putRing := goodIn_r _ [354, 297, 298, 299, 5, 300, 301, 302, 303, 304, 90, 221, 222, 223, 305, 306, 307, 308, 309, 310, 311, 312, 242, 243, 244, 245, 313, 314, 315, 316, 317, 318, 319, 320, 321, 322, 323, 324, 325, 326, 327, 228, 229, 230, 231, 232, 233, 234, 235, 236, 237, 92, 328, 329, 330, 331, 332, 333, 334, 335, 336, 337, 338, 339, 340, 341, 342, 343, 889, 890, 891, 892, 893, 894, 895, 896, 897, 898, 899, 900, 901, 902, 903, 904, 905, 906, 907, 908, 909] (by decide +kernel) (by decide +kernel)
set_option maxRecDepth 20000 in
theorem gL_law_X6_putRing : GoodIn wsL_law (wsV RL 98 RX6 yX6_putRing wsX6_putRing) := goodIn_app (goodIn_of _ (by decide +kernel)) ggL_law_X6_putRing
set_option maxRecDepth 20000 in
theorem ggL_law_L_move : GoodIn wsL_law wsL_move := goodIn_ca (goodIn_ca (goodIn_ca (goodIn_r _ [357, 253, 104, 105, 358, 359, 360, 2, 361, 110, 111, 21, 20, 16, 258, 259, 260, 261, 262, 263, 182, 15, 183, 184, 43, 112, 113, 114, 115, 116, 117, 118, 119, 120, 121, 122, 123, 124, 125, 126, 39, 127, 128, 129, 130, 40, 41, 42, 44, 45, 46, 47, 48, 362, 363, 364, 134, 135, 136, 137, 281, 282, 283, 284, 285, 286, 287, 288, 142, 143, 144, 166, 167, 168, 169, 162, 163, 164, 165, 170, 171, 172, 173, 174, 175, 176, 177, 145, 146, 147, 148, 34, 149, 33, 150, 151, 85, 84, 83, 82, 14, 35, 36, 37, 11, 12, 38, 152, 19, 153, 154, 56, 58, 59, 57, 155, 156, 157, 158, 52, 159, 160, 161, 178, 179, 180, 181, 53, 54, 185, 186, 187, 188, 189, 190, 191, 192, 193, 194, 195, 196, 197, 198, 199, 200, 201, 202, 203, 204, 205, 206, 207, 208, 209, 365, 366, 367, 882, 883, 884, 885, 886, 887, 888, 910, 911, 912, 913, 914, 915, 916, 917, 918, 919, 940, 941, 942, 920, 921, 922, 923, 924, 925, 926] (by decide +kernel) (by decide +kernel)) (goodIn_sub (fun _ h => List.mem_append_left _ (List.mem_append_left _ (List.mem_append_right _ h))) (by decide +kernel))) (goodIn_sub (fun _ h => List.mem_append_right _ h) (by decide +kernel))) (goodIn_sub (fun _ h => List.mem_append_left _ (List.mem_append_right _ h)) (by decide +kernel))
set_option maxRecDepth 20000 in
theorem gL_law_L_move : GoodIn wsL_law (va_wsS RL 99 yL_move wsL_move) := goodIn_app (goodIn_of _ (by decide +kernel)) ggL_law_L_move
set_option maxRecDepth 20000 in
theorem ggL_law_X6_move : GoodIn wsL_law wsX6_move := goodIn_r _ [371, 372, 373, 374, 5, 375, 90, 301, 302, 303, 304, 221, 222, 223, 218, 219, 220, 224, 225, 226, 227, 376, 377, 378, 379, 313, 314, 315, 316, 317, 318, 319, 320, 305, 306, 307, 308, 321, 322, 323, 324, 309, 310, 311, 312, 325, 326, 327, 228, 229, 230, 231, 232, 233, 234, 235, 236, 237, 92, 332, 333, 334, 335, 336, 337, 338, 339, 340, 341, 342, 343, 889, 890, 891, 892, 893, 894, 895, 896, 897, 898, 899, 900, 901, 902, 903, 904, 905, 906, 907, 908, 909] (by decide +kernel) (by decide +kernel)
set_option maxRecDepth 20000 in
theorem gL_law_X6_move : GoodIn wsL_law (wsV RL 101 RX6 yX6_move wsX6_move) := goodIn_app (goodIn_of _ (by decide +kernel)) ggL_law_X6_move
set_option maxRecDepth 20000 in
theorem ggL_law_L_flip : GoodIn wsL_law wsL_flip := goodIn_ca (goodIn_ca (goodIn_r _ [382, 253, 105, 383, 384, 385, 2, 386, 110, 111, 21, 20, 16, 258, 259, 260, 261, 262, 263, 182, 15, 183, 184, 43, 120, 121, 122, 123, 124, 125, 126, 39, 127, 128, 129, 130, 40, 41, 42, 44, 45, 46, 47, 48, 387, 388, 389, 142, 143, 144, 138, 139, 140, 141, 281, 282, 283, 284, 285, 286, 287, 288, 166, 167, 168, 169, 162, 163, 164, 165, 170, 171, 172, 173, 174, 175, 176, 177, 145, 146, 147, 148, 34, 149, 33, 150, 151, 85, 84, 83, 82, 14, 35, 36, 37, 11, 12, 38, 152, 19, 153, 154, 56, 58, 59, 57, 155, 156, 157, 158, 52, 159, 160, 161, 178, 179, 180, 181, 53, 54, 185, 186, 187, 188, 189, 190, 191, 192, 193, 194, 195, 196, 197, 198, 199, 200, 201, 202, 203, 204, 205, 206, 207, 208, 209, 365, 366, 367, 882, 883, 884, 885, 886, 887, 888, 910, 911, 912, 913, 914, 915, 916, 917, 918, 919, 940, 941, 942, 920, 921, 922, 923, 924, 925, 926] (by decide +kernel) (by decide +kernel)) (goodIn_sub (fun _ h => List.mem_append_left _ (List.mem_append_left _ (List.mem_append_right _ h))) (by decide +kernel))) (goodIn_sub (fun _ h => List.mem_append_right _ h) (by decide +kernel))
set_option maxRecDepth 20000 in
theorem gL_law_L_flip : GoodIn wsL_law (va_wsS RL 102 yL_flip wsL_flip) := goodIn_app (goodIn_of _ (by decide +kernel)) ggL_law_L_flip
set_option maxRecDepth 20000 in
theorem ggL_law_X6_flip : GoodIn wsL_law wsX6_flip := goodIn_r _ [393, 394, 395, 396, 5, 397, 301, 302, 303, 304, 90, 221, 222, 223, 398, 399, 400, 401, 305, 306, 307, 308, 309, 310, 311, 312, 242, 243, 244, 245, 313, 314, 315, 316, 317, 318, 319, 320, 321, 322, 323, 324, 325, 326, 327, 228, 229, 230, 231, 232, 233, 234, 235, 236, 237, 92, 332, 333, 334, 335, 336, 337, 338, 339, 340, 341, 342, 343, 889, 890, 891, 892, 893, 894, 895, 896, 897, 898, 899, 900, 901, 902, 903, 904, 905, 906, 907, 908, 909] (by decide +kernel) (by decide +kernel)
set_option maxRecDepth 20000 in
theorem gL_law_X6_flip : GoodIn wsL_law (wsV RL 105 RX6 yX6_flip wsX6_flip) := goodIn_app (goodIn_of _ (by decide +kernel)) ggL_law_X6_flip
set_option maxRecDepth 20000 in
theorem ggL_law_L_drive : GoodIn wsL_law wsL_drive := goodIn_ca (goodIn_r _ [404, 253, 405, 406, 407, 2, 408, 16, 21, 258, 259, 260, 261, 262, 263, 182, 15, 183, 184, 43, 120, 121, 122, 123, 124, 125, 126, 39, 127, 128, 129, 130, 40, 41, 42, 44, 45, 46, 47, 48, 145, 146, 147, 148, 34, 20, 149, 33, 150, 151, 85, 84, 83, 82, 14, 35, 36, 37, 11, 12, 38, 152, 19, 153, 154, 56, 58, 59, 57, 155, 156, 157, 158, 52, 159, 160, 161, 142, 143, 144, 162, 163, 164, 165, 166, 167, 168, 169, 170, 171, 172, 173, 174, 175, 176, 177, 178, 179, 180, 181, 53, 54, 185, 186, 187, 188, 189, 190, 191, 192, 193, 194, 195, 196, 197, 198, 199, 200, 201, 202, 203, 204, 205, 206, 207, 208, 209, 882, 883, 884, 885, 886, 887, 888, 910, 911, 912, 913, 914, 915, 916, 917, 918, 919, 940, 941, 942, 920, 921, 922, 923, 924, 925, 926] (by decide +kernel) (by decide +kernel)) (goodIn_sub (fun _ h => List.mem_append_right _ h) (by decide +kernel))
set_option maxRecDepth 20000 in
theorem gL_law_L_drive : GoodIn wsL_law (va_wsS RL 106 yL_drive wsL_drive) := goodIn_app (goodIn_of _ (by decide +kernel)) ggL_law_L_drive
set_option maxRecDepth 20000 in
theorem ggL_law_X6_drive : GoodIn wsL_law wsX6_drive := goodIn_r _ [412, 301, 302, 303, 5, 304, 90, 221, 222, 223, 228, 229, 230, 231, 232, 233, 234, 235, 236, 237, 92, 413, 414, 415, 416, 889, 890, 891, 892, 893, 894, 895, 896, 897, 898, 899, 900, 901, 902, 903, 904, 905, 906, 907, 908, 909] (by decide +kernel) (by decide +kernel)
set_option maxRecDepth 20000 in
theorem gL_law_X6_drive : GoodIn wsL_law (wsV RL 108 RX6 yX6_drive wsX6_drive) := goodIn_app (goodIn_of _ (by decide +kernel)) ggL_law_X6_drive
set_option maxRecDepth 20000 in
theorem ggL_law_L_goal : GoodIn wsL_law wsL_goal := goodIn_ca (goodIn_ca (goodIn_r _ [419, 253, 104, 420, 421, 422, 2, 423, 21, 20, 16, 258, 259, 260, 261, 262, 263, 182, 15, 183, 184, 43, 115, 116, 117, 118, 119, 120, 121, 122, 123, 124, 125, 126, 39, 127, 128, 129, 130, 40, 41, 42, 44, 45, 46, 47, 48, 424, 425, 426, 208, 209, 145, 146, 147, 148, 34, 149, 33, 150, 151, 85, 84, 83, 82, 14, 35, 36, 37, 11, 12, 38, 152, 19, 153, 154, 56, 58, 59, 57, 155, 156, 157, 158, 52, 159, 160, 161, 142, 143, 144, 162, 163, 164, 165, 166, 167, 168, 169, 170, 171, 172, 173, 174, 175, 176, 177, 178, 179, 180, 181, 53, 54, 185, 186, 187, 188, 189, 190, 191, 192, 193, 194, 195, 196, 197, 198, 199, 200, 201, 202, 203, 204, 205, 206, 207, 427, 428, 429, 430, 431, 432, 882, 883, 884, 885, 886, 887, 888, 910, 911, 912, 913, 914, 915, 916, 917, 918, 919, 940, 941, 942, 920, 921, 922, 923, 924, 925, 926] (by decide +kernel) (by decide +kernel)) (goodIn_sub (fun _ h => List.mem_append_right _ h) (by decide +kernel))) (goodIn_sub (fun _ h => List.mem_append_left _ (List.mem_append_right _ h)) (by decide +kernel))
set_option maxRecDepth 20000 in
theorem gL_law_L_goal : GoodIn wsL_law (va_wsS RL 109 yL_goal wsL_goal) := goodIn_app (goodIn_of _ (by decide +kernel)) ggL_law_L_goal
set_option maxRecDepth 20000 in
theorem ggL_law_X6_goal : GoodIn wsL_law wsX6_goal := goodIn_r _ [436, 90, 301, 302, 303, 5, 304, 221, 222, 223, 228, 229, 230, 231, 232, 233, 234, 235, 236, 237, 92, 437, 438, 439, 440, 441, 442, 443, 444, 96, 94, 95, 445, 446, 340, 341, 342, 343, 317, 318, 319, 320, 305, 306, 307, 308, 321, 322, 323, 324, 309, 310, 311, 312, 325, 326, 327, 447, 448, 449, 450, 451, 452, 453, 454, 455, 889, 890, 891, 892, 893, 894, 895, 896, 897, 898, 899, 900, 901, 902, 903, 904, 905, 906, 907, 908, 909] (by decide +kernel) (by decide +kernel)
set_option maxRecDepth 20000 in
theorem gL_law_X6_goal : GoodIn wsL_law (wsV RL 111 RX6 yX6_goal wsX6_goal) := goodIn_app (goodIn_of _ (by decide +kernel)) ggL_law_X6_goal
set_option maxRecDepth 20000 in
theorem ggL_law_L_set : GoodIn wsL_law wsL_set := goodIn_ca (goodIn_r _ [458, 104, 459, 460, 461, 2, 462, 16, 21, 115, 116, 117, 118, 119, 120, 121, 122, 123, 124, 15, 125, 126, 39, 127, 128, 129, 130, 40, 41, 42, 43, 44, 45, 46, 47, 48, 145, 146, 147, 148, 34, 20, 149, 33, 150, 151, 85, 84, 83, 82, 14, 35, 36, 37, 11, 12, 38, 152, 19, 153, 154, 56, 58, 59, 57, 155, 156, 157, 158, 52, 159, 160, 161, 142, 143, 144, 162, 163, 164, 165, 166, 167, 168, 169, 170, 171, 172, 173, 174, 175, 176, 177, 178, 179, 180, 181, 53, 54, 182, 183, 184, 185, 186, 187, 188, 189, 190, 191, 192, 193, 194, 195, 196, 197, 198, 199, 200, 201, 202, 203, 204, 205, 206, 207, 208, 209, 882, 883, 884, 885, 886, 887, 888, 910, 911, 912, 913, 914, 915, 916, 917, 918, 919, 940, 941, 942, 920, 921, 922, 923, 924, 925, 926] (by decide +kernel) (by decide +kernel)) (goodIn_sub (fun _ h => List.mem_append_left _ (List.mem_append_right _ h)) (by decide +kernel))
set_option maxRecDepth 20000 in
theorem gL_law_L_set : GoodIn wsL_law (va_wsS RL 112 yL_set wsL_set) := goodIn_app (goodIn_of _ (by decide +kernel)) ggL_law_L_set
set_option maxRecDepth 20000 in
theorem ggL_law_X6_set : GoodIn wsL_law wsX6_set := goodIn_r _ [466, 90, 221, 222, 5, 223, 228, 229, 230, 231, 232, 233, 234, 235, 236, 237, 92, 889, 890, 891, 892, 893, 894, 895, 896, 897, 898, 899, 900, 901, 902, 903, 904, 905, 906, 907, 908, 909] (by decide +kernel) (by decide +kernel)
set_option maxRecDepth 20000 in
theorem gL_law_X6_set : GoodIn wsL_law (wsV RL 114 RX6 yX6_set wsX6_set) := goodIn_app (goodIn_of _ (by decide +kernel)) ggL_law_X6_set
set_option maxRecDepth 20000 in
theorem ggL_law_L_append : GoodIn wsL_law wsL_append := goodIn_ca (goodIn_ca (goodIn_r _ [469, 104, 105, 470, 471, 472, 2, 473, 110, 111, 30, 115, 116, 117, 118, 119, 474, 29, 475, 476, 73, 72, 882, 883, 884, 885, 886, 887, 888, 933, 934, 935, 936, 937, 938, 939] (by decide +kernel) (by decide +kernel)) (goodIn_sub (fun _ h => List.mem_append_left _ (List.mem_append_left _ (List.mem_append_right _ h))) (by decide +kernel))) (goodIn_sub (fun _ h => List.mem_append_left _ (List.mem_append_right _ h)) (by decide +kernel))
set_option maxRecDepth 20000 in
theorem gL_law_L_append : GoodIn wsL_law (va_wsS RL 115 yL_append wsL_append) := goodIn_app (goodIn_of _ (by decide +kernel)) ggL_law_L_append
set_option maxRecDepth 20000 in
theorem ggL_law_X6_append : GoodIn wsL_law wsX6_append := goodIn_r _ [480, 481, 93, 221, 222, 5, 223, 228, 229, 230, 231, 232, 889, 890, 891, 892, 893, 894, 895, 896, 897, 898, 899, 900, 901, 902, 903, 904, 905, 906, 907, 908, 909] (by decide +kernel) (by decide +kernel)
set_option maxRecDepth 20000 in
theorem gL_law_X6_append : GoodIn wsL_law (wsV RL 117 RX6 yX6_append wsX6_append) := goodIn_app (goodIn_of _ (by decide +kernel)) ggL_law_X6_append
set_option maxRecDepth 20000 in
theorem ggL_law_X5_clearBuffer : GoodIn wsL_law wsX5_clearBuffer := goodIn_r _ [485, 30, 882, 883, 884, 885, 886, 887, 888, 933, 934, 935, 936, 937, 938, 939] (by decide +kernel) (by decide +kernel)
set_option maxRecDepth 20000 in
theorem gL_law_X5_clearBuffer : GoodIn wsL_law (wsV RL 118 RX5 yX5_clearBuffer wsX5_clearBuffer) := goodIn_app (goodIn_of _ (by decide +kernel)) ggL_law_X5_clearBuffer
set_option maxRecDepth 20000 in
theorem ggL_law_X6_clearBuffer : GoodIn wsL_law wsX6_clearBuffer := goodIn_r _ [489, 232, 481, 889, 890, 891, 892, 893, 894, 895, 896, 897, 898, 899, 900, 901, 902, 903, 904, 905, 906, 907, 908, 909] (by decide +kernel) (by decide +kernel)
set_option maxRecDepth 20000 in
theorem gL_law_X6_clearBuffer : GoodIn wsL_law (wsV RL 121 RX6 yX6_clearBuffer wsX6_clearBuffer) := goodIn_app (goodIn_of _ (by decide +kernel)) ggL_law_X6_clearBuffer
set_option maxRecDepth 20000 in
theorem ggL_law_X5_firstError : GoodIn wsL_law wsX5_firstError := goodIn_r _ [493, 30, 494, 29, 495, 496, 77, 76, 78, 73, 497, 498, 499, 500, 74, 72, 501, 502, 503, 504, 505, 506, 507, 508, 509, 510, 511, 512, 75, 513, 514, 515, 516, 517, 518, 519, 882, 883, 884, 885, 886, 887, 888, 933, 934, 935, 936, 937, 938, 939] (by decide +kernel) (by decide +kernel)
set_option maxRecDepth 20000 in
theorem gL_law_X5_firstError : GoodIn wsL_law (wsV RL 122 RX5 yX5_firstError wsX5_firstError) := goodIn_app (goodIn_of _ (by decide +kernel)) ggL_law_X5_firstError
set_option maxRecDepth 20000 in
theorem ggL_law_X6_firstError : GoodIn wsL_law wsX6_firstError := goodIn_r _ [523, 232, 524, 525, 481, 526, 527, 528, 5, 529, 530, 531, 532, 533, 93, 97, 534, 535, 536, 537, 538, 539, 540, 541, 221, 222, 223, 542, 543, 544, 545, 546, 547, 548, 549, 214, 215, 216, 217, 90, 218, 219, 220, 224, 225, 226, 227, 301, 302, 303, 304, 297, 298, 299, 300, 305, 306, 307, 308, 309, 310, 311, 312, 242, 243, 244, 245, 313, 314, 315, 316, 317, 318, 319, 320, 321, 322, 323, 324, 325, 326, 327, 238, 239, 240, 241, 413, 414, 415, 416, 328, 329, 330, 331, 332, 333, 334, 335, 336, 337, 338, 339, 340, 341, 342, 343, 889, 890, 891, 892, 893, 894, 895, 896, 897, 898, 899, 900, 901, 902, 903, 904, 905, 906, 907, 908, 909] (by decide +kernel) (by decide +kernel)
set_option maxRecDepth 20000 in
theorem gL_law_X6_firstError : GoodIn wsL_law (wsV RL 125 RX6 yX6_firstError wsX6_firstError) := goodIn_app (goodIn_of _ (by decide +kernel)) ggL_law_X6_firstError
set_option maxRecDepth 20000 in
theorem ggL_law_L_build : GoodIn wsL_law wsL_build := goodIn_ca (goodIn_r _ [552, 104, 553, 554, 555, 2, 556, 30, 494, 29, 495, 496, 77, 76, 78, 73, 497, 498, 499, 500, 74, 72, 501, 502, 503, 504, 505, 506, 507, 508, 509, 510, 511, 512, 75, 513, 514, 515, 516, 517, 518, 519, 115, 116, 117, 118, 119, 120, 121, 122, 123, 21, 16, 124, 15, 125, 126, 39, 127, 128, 129, 130, 40, 41, 42, 43, 44, 45, 46, 47, 48, 557, 558, 559, 560, 561, 562, 563, 131, 132, 133, 134, 135, 136, 137, 138, 139, 140, 141, 142, 143, 144, 270, 271, 272, 277, 278, 279, 280, 182, 183, 184, 281, 282, 283, 284, 285, 286, 287, 288, 166, 167, 168, 169, 162, 163, 164, 165, 170, 171, 172, 173, 174, 175, 176, 177, 564, 565, 566, 145, 146, 147, 148, 34, 20, 149, 33, 150, 151, 85, 84, 83, 82, 14, 35, 36, 37, 11, 12, 38, 152, 19, 153, 154, 56, 58, 59, 57, 155, 156, 157, 158, 52, 159, 160, 161, 178, 179, 180, 181, 53, 54, 185, 186, 187, 188, 189, 190, 191, 192, 193, 194, 195, 196, 197, 198, 199, 200, 201, 202, 203, 204, 205, 206, 207, 208, 209, 882, 883, 884, 885, 886, 887, 888, 933, 934, 935, 936, 937, 938, 939, 910, 911, 912, 913, 914, 915, 916, 917, 918, 919, 940, 941, 942, 920, 921, 922, 923, 924, 925, 926] (by decide +kernel) (by decide +kernel)) (goodIn_sub (fun _ h => List.mem_append_left _ (List.mem_append_right _ h)) (by decide +kernel))
set_option maxRecDepth 20000 in
theorem gL_law_L_build : GoodIn wsL_law (va_wsS RL 126 yL_build wsL_build) := goodIn_app (goodIn_of _ (by decide +kernel)) ggL_law_L_build
set_option maxRecDepth 20000 in
theorem ggL_law_X6_build : GoodIn wsL_law wsX6_build := goodIn_r _ [570, 524, 481, 526, 527, 528, 5, 529, 525, 530, 531, 532, 533, 93, 97, 534, 535, 536, 537, 538, 539, 540, 541, 221, 222, 223, 542, 543, 544, 545, 546, 547, 548, 549, 214, 215, 216, 217, 90, 218, 219, 220, 224, 225, 226, 227, 301, 302, 303, 304, 297, 298, 299, 300, 305, 306, 307, 308, 309, 310, 311, 312, 242, 243, 244, 245, 313, 314, 315, 316, 317, 318, 319, 320, 321, 322, 323, 324, 325, 326, 327, 238, 239, 240, 241, 413, 414, 415, 416, 328, 329, 330, 331, 332, 333, 334, 335, 336, 337, 338, 339, 340, 341, 342, 343, 228, 229, 230, 231, 232, 233, 234, 235, 236, 237, 92, 889, 890, 891, 892, 893, 894, 895, 896, 897, 898, 899, 900, 901, 902, 903, 904, 905, 906, 907, 908, 909] (by decide +kernel) (by decide +kernel)
set_option maxRecDepth 20000 in
theorem gL_law_X6_build : GoodIn wsL_law (wsV RL 129 RX6 yX6_build wsX6_build) := goodIn_app (goodIn_of _ (by decide +kernel)) ggL_law_X6_build
set_option maxRecDepth 20000 in
theorem ggL_law_L_undo : GoodIn wsL_law wsL_undo := goodIn_ca (goodIn_r _ [573, 105, 574, 575, 576, 2, 577, 110, 111, 34, 16, 20, 578, 33, 579, 580, 85, 83, 84, 124, 15, 125, 126, 39, 127, 128, 129, 130, 40, 41, 42, 43, 44, 45, 46, 47, 48, 152, 19, 153, 154, 56, 58, 59, 57, 155, 156, 157, 158, 52, 159, 160, 161, 142, 143, 144, 162, 163, 164, 165, 166, 167, 168, 169, 170, 171, 172, 173, 174, 175, 176, 177, 178, 179, 180, 181, 53, 54, 182, 183, 184, 185, 186, 187, 188, 189, 190, 191, 192, 193, 194, 195, 196, 197, 198, 199, 200, 201, 202, 203, 204, 205, 206, 207, 208, 209, 882, 883, 884, 885, 886, 887, 888, 940, 941, 942, 910, 911, 912, 913, 914, 915, 916, 917, 918, 919, 920, 921, 922, 923, 924, 925, 926] (by decide +kernel) (by decide +kernel)) (goodIn_sub (fun _ h => List.mem_append_left _ (List.mem_append_left _ (List.mem_append_right _ h))) (by decide +kernel))
set_option maxRecDepth 20000 in
theorem gL_law_L_undo : GoodIn wsL_law (va_wsS RL 130 yL_undo wsL_undo) := goodIn_app (goodIn_of _ (by decide +kernel)) ggL_law_L_undo
set_option maxRecDepth 20000 in
theorem ggL_law_X6_undo : GoodIn wsL_law wsX6_undo := goodIn_r _ [584, 237, 90, 92, 228, 229, 230, 5, 231, 232, 889, 890, 891, 892, 893, 894, 895, 896, 897, 898, 899, 900, 901, 902, 903, 904, 905, 906, 907, 908, 909] (by decide +kernel) (by decide +kernel)
set_option maxRecDepth 20000 in
theorem gL_law_X6_undo : GoodIn wsL_law (wsV RL 132 RX6 yX6_undo wsX6_undo) := goodIn_app (goodIn_of _ (by decide +kernel)) ggL_law_X6_undo
set_option maxRecDepth 20000 in
theorem ggL_law_L_peg : GoodIn wsL_law wsL_peg := goodIn_ca (goodIn_ca (goodIn_r _ [587, 253, 104, 588, 589, 590, 2, 591, 258, 259, 260, 261, 262, 263, 16, 182, 15, 183, 184, 43, 115, 116, 117, 118, 119, 592, 593, 594, 595, 20, 143, 144, 365, 19, 366, 367, 197, 198, 199, 200, 52, 596, 597, 598, 53, 430, 431, 432, 882, 883, 884, 885, 886, 887, 888, 910, 911, 912, 913, 914, 915, 916, 917, 918, 919, 920, 921, 922, 923, 924, 925, 926] (by decide +kernel) (by decide +kernel)) (goodIn_sub (fun _ h => List.mem_append_right _ h) (by decide +kernel))) (goodIn_sub (fun _ h => List.mem_append_left _ (List.mem_append_right _ h)) (by decide +kernel))
set_option maxRecDepth 20000 in
theorem gL_law_L_peg : GoodIn wsL_law (va_wsS RL 133 yL_peg wsL_peg) := goodIn_app (goodIn_of _ (by decide +kernel)) ggL_law_L_peg
set_option maxRecDepth 20000 in
theorem ggL_law_X6_peg : GoodIn wsL_law wsX6_peg := goodIn_r _ [602, 440, 441, 442, 5, 443, 444, 96, 90, 94, 95, 445, 446, 340, 341, 342, 343, 317, 318, 319, 320, 305, 306, 307, 308, 321, 322, 323, 324, 309, 310, 311, 312, 325, 326, 327, 447, 448, 449, 450, 451, 437, 438, 439, 301, 302, 303, 304, 221, 222, 223, 228, 229, 230, 231, 232, 603, 604, 605, 606, 332, 333, 334, 335, 336, 337, 338, 339, 889, 890, 891, 892, 893, 894, 895, 896, 897, 898, 899, 900, 901, 902, 903, 904, 905, 906, 907, 908, 909] (by decide +kernel) (by decide +kernel)
set_option maxRecDepth 20000 in
theorem gL_law_X6_peg : GoodIn wsL_law (wsV RL 135 RX6 yX6_peg wsX6_peg) := goodIn_app (goodIn_of _ (by decide +kernel)) ggL_law_X6_peg
set_option maxRecDepth 20000 in
theorem ggL_law_L_speed : GoodIn wsL_law wsL_speed := goodIn_ca (goodIn_ca (goodIn_r _ [609, 253, 104, 610, 611, 612, 2, 613, 20, 258, 259, 260, 261, 262, 263, 16, 182, 15, 183, 184, 43, 115, 116, 117, 118, 119, 882, 883, 884, 885, 886, 887, 888, 920, 921, 922, 923, 924, 925, 926, 910, 911, 912, 913, 914, 915, 916, 917, 918, 919] (by decide +kernel) (by decide +kernel)) (goodIn_sub (fun _ h => List.mem_append_right _ h) (by decide +kernel))) (goodIn_sub (fun _ h => List.mem_append_left _ (List.mem_append_right _ h)) (by decide +kernel))
set_option maxRecDepth 20000 in
theorem gL_law_L_speed : GoodIn wsL_law (va_wsS RL 136 yL_speed wsL_speed) := goodIn_app (goodIn_of _ (by decide +kernel)) ggL_law_L_speed
set_option maxRecDepth 20000 in
theorem ggL_law_X6_speed : GoodIn wsL_law wsX6_speed := goodIn_r _ [617, 94, 95, 440, 441, 442, 5, 443, 444, 96, 90, 445, 446, 340, 341, 342, 343, 317, 318, 319, 320, 305, 306, 307, 308, 321, 322, 323, 324, 309, 310, 311, 312, 325, 326, 327, 447, 448, 449, 450, 451, 437, 438, 439, 301, 302, 303, 304, 221, 222, 223, 228, 229, 230, 231, 232, 889, 890, 891, 892, 893, 894, 895, 896, 897, 898, 899, 900, 901, 902, 903, 904, 905, 906, 907, 908, 909] (by decide +kernel) (by decide +kernel)
set_option maxRecDepth 20000 in
theorem gL_law_X6_speed : GoodIn wsL_law (wsV RL 138 RX6 yX6_speed wsX6_speed) := goodIn_app (goodIn_of _ (by decide +kernel)) ggL_law_X6_speed
set_option maxRecDepth 20000 in
theorem ggL_law_L_meshes : GoodIn wsL_law wsL_meshes := goodIn_ca (goodIn_r _ [620, 253, 621, 622, 623, 2, 624, 20, 258, 259, 260, 261, 262, 263, 16, 182, 15, 183, 184, 43, 198, 19, 199, 200, 52, 882, 883, 884, 885, 886, 887, 888, 910, 911, 912, 913, 914, 915, 916, 917, 918, 919, 920, 921, 922, 923, 924, 925, 926] (by decide +kernel) (by decide +kernel)) (goodIn_sub (fun _ h => List.mem_append_right _ h) (by decide +kernel))
set_option maxRecDepth 20000 in
theorem gL_law_L_meshes : GoodIn wsL_law (va_wsS RL 139 yL_meshes wsL_meshes) := goodIn_app (goodIn_of _ (by decide +kernel)) ggL_law_L_meshes
set_option maxRecDepth 20000 in
theorem ggL_law_X6_meshes : GoodIn wsL_law wsX6_meshes := goodIn_r _ [628, 301, 302, 303, 5, 304, 90, 221, 222, 223, 228, 229, 230, 231, 232, 336, 337, 338, 339, 340, 341, 342, 343, 317, 318, 319, 320, 305, 306, 307, 308, 321, 322, 323, 324, 309, 310, 311, 312, 325, 326, 327, 889, 890, 891, 892, 893, 894, 895, 896, 897, 898, 899, 900, 901, 902, 903, 904, 905, 906, 907, 908, 909] (by decide +kernel) (by decide +kernel)
set_option maxRecDepth 20000 in
theorem gL_law_X6_meshes : GoodIn wsL_law (wsV RL 141 RX6 yX6_meshes wsX6_meshes) := goodIn_app (goodIn_of _ (by decide +kernel)) ggL_law_X6_meshes
set_option maxRecDepth 20000 in
theorem ggL_law_L_train : GoodIn wsL_law wsL_train := goodIn_ca (goodIn_ca (goodIn_r _ [631, 253, 104, 632, 633, 634, 2, 635, 26, 16, 20, 258, 259, 260, 261, 262, 263, 182, 15, 183, 184, 43, 115, 116, 117, 118, 119, 636, 25, 637, 638, 65, 66, 67, 68, 64, 63, 639, 640, 641, 642, 643, 644, 645, 646, 198, 19, 199, 200, 52, 647, 648, 649, 650, 651, 652, 653, 654, 194, 195, 196, 197, 655, 656, 657, 658, 206, 207, 143, 144, 208, 209, 659, 660, 661, 662, 430, 431, 432, 882, 883, 884, 885, 886, 887, 888, 910, 911, 912, 913, 914, 915, 916, 917, 918, 919, 927, 928, 929, 930, 931, 932, 920, 921, 922, 923, 924, 925, 926] (by decide +kernel) (by decide +kernel)) (goodIn_sub (fun _ h => List.mem_append_right _ h) (by decide +kernel))) (goodIn_sub (fun _ h => List.mem_append_left _ (List.mem_append_right _ h)) (by decide +kernel))
set_option maxRecDepth 20000 in
theorem gL_law_L_train : GoodIn wsL_law (va_wsS RL 142 yL_train wsL_train) := goodIn_app (goodIn_of _ (by decide +kernel)) ggL_law_L_train
set_option maxRecDepth 20000 in
theorem ggL_law_X6_train : GoodIn wsL_law wsX6_train := goodIn_r _ [666, 301, 302, 303, 5, 304, 90, 221, 222, 223, 228, 229, 230, 231, 232, 667, 668, 669, 670, 671, 672, 99, 445, 673, 674, 675, 676, 98, 336, 337, 338, 339, 340, 341, 342, 343, 317, 318, 319, 320, 305, 306, 307, 308, 321, 322, 323, 324, 309, 310, 311, 312, 325, 326, 327, 677, 678, 679, 680, 446, 447, 448, 449, 450, 451, 437, 438, 439, 889, 890, 891, 892, 893, 894, 895, 896, 897, 898, 899, 900, 901, 902, 903, 904, 905, 906, 907, 908, 909] (by decide +kernel) (by decide +kernel)
set_option maxRecDepth 20000 in
theorem gL_law_X6_train : GoodIn wsL_law (wsV RL 144 RX6 yX6_train wsX6_train) := goodIn_app (goodIn_of _ (by decide +kernel)) ggL_law_X6_train
set_option maxRecDepth 20000 in
theorem ggL_law_L_ratio : GoodIn wsL_law wsL_ratio := goodIn_ca (goodIn_ca (goodIn_r _ [683, 253, 104, 684, 685, 686, 2, 687, 26, 16, 20, 258, 259, 260, 261, 262, 263, 182, 15, 183, 184, 43, 115, 116, 117, 118, 119, 636, 25, 637, 638, 65, 66, 67, 68, 64, 63, 639, 640, 641, 642, 643, 644, 645, 646, 198, 19, 199, 200, 52, 647, 648, 649, 650, 651, 652, 653, 654, 194, 195, 196, 197, 655, 656, 657, 658, 206, 207, 143, 144, 208, 209, 882, 883, 884, 885, 886, 887, 888, 927, 928, 929, 930, 931, 932, 910, 911, 912, 913, 914, 915, 916, 917, 918, 919, 920, 921, 922, 923, 924, 925, 926] (by decide +kernel) (by decide +kernel)) (goodIn_sub (fun _ h => List.mem_append_right _ h) (by decide +kernel))) (goodIn_sub (fun _ h => List.mem_append_left _ (List.mem_append_right _ h)) (by decide +kernel))
set_option maxRecDepth 20000 in
theorem gL_law_L_ratio : GoodIn wsL_law (va_wsS RL 145 yL_ratio wsL_ratio) := goodIn_app (goodIn_of _ (by decide +kernel)) ggL_law_L_ratio
set_option maxRecDepth 20000 in
theorem ggL_law_X6_ratio : GoodIn wsL_law wsX6_ratio := goodIn_r _ [691, 301, 302, 303, 5, 304, 90, 221, 222, 223, 228, 229, 230, 231, 232, 692, 693, 694, 695, 445, 446, 673, 674, 675, 676, 98, 671, 99, 336, 337, 338, 339, 340, 341, 342, 343, 317, 318, 319, 320, 305, 306, 307, 308, 321, 322, 323, 324, 309, 310, 311, 312, 325, 326, 327, 677, 678, 679, 680, 672, 447, 448, 449, 450, 451, 437, 438, 439, 889, 890, 891, 892, 893, 894, 895, 896, 897, 898, 899, 900, 901, 902, 903, 904, 905, 906, 907, 908, 909] (by decide +kernel) (by decide +kernel)
set_option maxRecDepth 20000 in
theorem gL_law_X6_ratio : GoodIn wsL_law (wsV RL 147 RX6 yX6_ratio wsX6_ratio) := goodIn_app (goodIn_of _ (by decide +kernel)) ggL_law_X6_ratio
set_option maxRecDepth 20000 in
theorem ggL_law_X5_marks : GoodIn wsL_law wsX5_marks := goodIn_r _ [699, 20, 16, 700, 19, 701, 702, 54, 703, 704, 705, 706, 707, 596, 597, 598, 53, 208, 2, 209, 882, 883, 884, 885, 886, 887, 888, 910, 911, 912, 913, 914, 915, 916, 917, 918, 919, 920, 921, 922, 923, 924, 925, 926] (by decide +kernel) (by decide +kernel)
set_option maxRecDepth 20000 in
theorem gL_law_X5_marks : GoodIn wsL_law (wsV RL 148 RX5 yX5_marks wsX5_marks) := goodIn_app (goodIn_of _ (by decide +kernel)) ggL_law_X5_marks
set_option maxRecDepth 20000 in
theorem ggL_law_X6_marks : GoodIn wsL_law wsX6_marks := goodIn_r _ [711, 232, 440, 441, 442, 5, 443, 444, 96, 90, 94, 95, 445, 446, 340, 341, 342, 343, 317, 318, 319, 320, 305, 306, 307, 308, 321, 322, 323, 324, 309, 310, 311, 312, 325, 326, 327, 447, 448, 449, 450, 451, 437, 438, 439, 712, 713, 714, 715, 889, 890, 891, 892, 893, 894, 895, 896, 897, 898, 899, 900, 901, 902, 903, 904, 905, 906, 907, 908, 909] (by decide +kernel) (by decide +kernel)
set_option maxRecDepth 20000 in
theorem gL_law_X6_marks : GoodIn wsL_law (wsV RL 152 RX6 yX6_marks wsX6_marks) := goodIn_app (goodIn_of _ (by decide +kernel)) ggL_law_X6_marks
set_option maxRecDepth 20000 in
theorem ggL_law_L_count : GoodIn wsL_law wsL_count := goodIn_ca (goodIn_r _ [718, 104, 719, 720, 721, 2, 722, 115, 116, 117, 118, 119, 723, 724, 725, 726, 16, 20, 34, 727, 15, 728, 729, 43, 41, 142, 143, 144, 730, 19, 731, 732, 733, 365, 366, 367, 197, 198, 199, 200, 52, 430, 431, 432, 427, 428, 429, 53, 54, 182, 183, 184, 734, 735, 736, 285, 286, 287, 288, 42, 166, 167, 168, 169, 39, 40, 162, 163, 164, 165, 170, 171, 172, 173, 48, 174, 175, 176, 177, 882, 883, 884, 885, 886, 887, 888, 910, 911, 912, 913, 914, 915, 916, 917, 918, 919, 920, 921, 922, 923, 924, 925, 926, 940, 941, 942] (by decide +kernel) (by decide +kernel)) (goodIn_sub (fun _ h => List.mem_append_left _ (List.mem_append_right _ h)) (by decide +kernel))
set_option maxRecDepth 20000 in
theorem gL_law_L_count : GoodIn wsL_law (va_wsS RL 153 yL_count wsL_count) := goodIn_app (goodIn_of _ (by decide +kernel)) ggL_law_L_count
set_option maxRecDepth 20000 in
theorem ggL_law_X6_count : GoodIn wsL_law wsX6_count := goodIn_r _ [740, 440, 441, 442, 5, 443, 444, 96, 90, 94, 95, 445, 446, 340, 341, 342, 343, 317, 318, 319, 320, 305, 306, 307, 308, 321, 322, 323, 324, 309, 310, 311, 312, 325, 326, 327, 447, 448, 449, 450, 451, 437, 438, 439, 221, 222, 223, 228, 229, 230, 231, 232, 741, 742, 743, 744, 237, 745, 746, 747, 748, 336, 337, 338, 339, 749, 750, 751, 752, 452, 453, 454, 455, 889, 890, 891, 892, 893, 894, 895, 896, 897, 898, 899, 900, 901, 902, 903, 904, 905, 906, 907, 908, 909] (by decide +kernel) (by decide +kernel)
set_option maxRecDepth 20000 in
theorem gL_law_X6_count : GoodIn wsL_law (wsV RL 155 RX6 yX6_count wsX6_count) := goodIn_app (goodIn_of _ (by decide +kernel)) ggL_law_X6_count
set_option maxRecDepth 20000 in
theorem ggL_law_L_ifPut : GoodIn wsL_law wsL_ifPut := goodIn_ca (goodIn_ca (goodIn_r _ [755, 253, 104, 756, 757, 758, 2, 759, 21, 22, 258, 259, 260, 261, 262, 263, 16, 182, 15, 183, 184, 43, 264, 265, 266, 267, 268, 269, 115, 116, 117, 118, 119, 120, 121, 122, 123, 124, 125, 126, 39, 127, 128, 129, 130, 40, 41, 42, 44, 45, 46, 47, 48, 270, 271, 272, 139, 140, 141, 142, 143, 144, 282, 283, 284, 285, 286, 287, 288, 166, 167, 168, 169, 162, 163, 164, 165, 170, 171, 172, 173, 174, 175, 176, 177, 289, 290, 291, 292, 159, 160, 161, 152, 19, 153, 154, 56, 58, 59, 57, 155, 156, 157, 158, 52, 178, 179, 180, 181, 53, 54, 185, 186, 187, 188, 189, 190, 191, 192, 193, 194, 195, 196, 197, 198, 199, 200, 201, 202, 203, 204, 205, 206, 207, 208, 209, 430, 431, 432, 427, 428, 429, 882, 883, 884, 885, 886, 887, 888, 920, 921, 922, 923, 924, 925, 926, 910, 911, 912, 913, 914, 915, 916, 917, 918, 919] (by decide +kernel) (by decide +kernel)) (goodIn_sub (fun _ h => List.mem_append_right _ h) (by decide +kernel))) (goodIn_sub (fun _ h => List.mem_append_left _ (List.mem_append_right _ h)) (by decide +kernel))
set_option maxRecDepth 20000 in
theorem gL_law_L_ifPut : GoodIn wsL_law (va_wsS RL 156 yL_ifPut wsL_ifPut) := goodIn_app (goodIn_of _ (by decide +kernel)) ggL_law_L_ifPut
set_option maxRecDepth 20000 in
theorem ggL_law_X6_ifPut : GoodIn wsL_law wsX6_ifPut := goodIn_r _ [763, 301, 302, 303, 5, 304, 90, 221, 222, 223, 228, 229, 230, 231, 232, 764, 765, 766, 767, 444, 768, 769, 770, 771, 91, 242, 243, 244, 245, 440, 441, 442, 443, 96, 94, 95, 445, 446, 340, 341, 342, 343, 317, 318, 319, 320, 305, 306, 307, 308, 321, 322, 323, 324, 309, 310, 311, 312, 325, 326, 327, 447, 448, 449, 450, 451, 437, 438, 439, 313, 314, 315, 316, 452, 453, 454, 455, 332, 333, 334, 335, 336, 337, 338, 339, 749, 750, 751, 752, 772, 773, 774, 775, 889, 890, 891, 892, 893, 894, 895, 896, 897, 898, 899, 900, 901, 902, 903, 904, 905, 906, 907, 908, 909] (by decide +kernel) (by decide +kernel)
set_option maxRecDepth 20000 in
theorem gL_law_X6_ifPut : GoodIn wsL_law (wsV RL 159 RX6 yX6_ifPut wsX6_ifPut) := goodIn_app (goodIn_of _ (by decide +kernel)) ggL_law_X6_ifPut
set_option maxRecDepth 20000 in
theorem ggL_law_L_solution : GoodIn wsL_law wsL_solution := goodIn_ca (goodIn_r _ [778, 104, 779, 780, 781, 2, 782, 115, 116, 117, 118, 119, 783, 784, 785, 786, 16, 20, 427, 19, 428, 429, 53, 54, 182, 15, 183, 184, 43, 120, 121, 122, 123, 21, 124, 125, 126, 39, 127, 128, 129, 130, 40, 41, 42, 44, 45, 46, 47, 48, 787, 788, 789, 790, 22, 791, 792, 793, 270, 271, 272, 139, 140, 141, 142, 143, 144, 282, 283, 284, 285, 286, 287, 288, 166, 167, 168, 169, 162, 163, 164, 165, 170, 171, 172, 173, 174, 175, 176, 177, 152, 153, 154, 56, 58, 59, 57, 155, 156, 157, 158, 52, 159, 160, 161, 178, 179, 180, 181, 185, 186, 187, 188, 189, 190, 191, 192, 193, 194, 195, 196, 197, 198, 199, 200, 201, 202, 203, 204, 205, 206, 207, 208, 209, 882, 883, 884, 885, 886, 887, 888, 910, 911, 912, 913, 914, 915, 916, 917, 918, 919, 920, 921, 922, 923, 924, 925, 926] (by decide +kernel) (by decide +kernel)) (goodIn_sub (fun _ h => List.mem_append_left _ (List.mem_append_right _ h)) (by decide +kernel))
set_option maxRecDepth 20000 in
theorem gL_law_L_solution : GoodIn wsL_law (va_wsS RL 160 yL_solution wsL_solution) := goodIn_app (goodIn_of _ (by decide +kernel)) ggL_law_L_solution
set_option maxRecDepth 20000 in
theorem ggL_law_X6_solution : GoodIn wsL_law wsX6_solution := goodIn_r _ [797, 221, 222, 5, 223, 228, 229, 230, 231, 232, 798, 799, 800, 801, 802, 803, 804, 805, 90, 440, 441, 442, 443, 444, 96, 94, 95, 445, 446, 340, 341, 342, 343, 317, 318, 319, 320, 305, 306, 307, 308, 321, 322, 323, 324, 309, 310, 311, 312, 325, 326, 327, 447, 448, 449, 450, 451, 437, 438, 439, 452, 453, 454, 455, 297, 298, 299, 300, 301, 302, 303, 304, 242, 243, 244, 245, 313, 314, 315, 316, 768, 769, 770, 771, 91, 772, 773, 774, 775, 889, 890, 891, 892, 893, 894, 895, 896, 897, 898, 899, 900, 901, 902, 903, 904, 905, 906, 907, 908, 909] (by decide +kernel) (by decide +kernel)
set_option maxRecDepth 20000 in
theorem gL_law_X6_solution : GoodIn wsL_law (wsV RL 162 RX6 yX6_solution wsX6_solution) := goodIn_app (goodIn_of _ (by decide +kernel)) ggL_law_X6_solution
set_option maxRecDepth 20000 in
theorem ggL_law_X5_culprit : GoodIn wsL_law wsX5_culprit := goodIn_r _ [809, 20, 16, 810, 811, 812, 2, 813, 21, 22, 120, 121, 122, 123, 124, 15, 125, 126, 39, 127, 128, 129, 130, 40, 41, 42, 43, 44, 45, 46, 47, 48, 139, 140, 141, 142, 143, 144, 152, 19, 153, 154, 56, 58, 59, 57, 155, 156, 157, 158, 52, 159, 160, 161, 162, 163, 164, 165, 166, 167, 168, 169, 170, 171, 172, 173, 174, 175, 176, 177, 178, 179, 180, 181, 53, 54, 182, 183, 184, 185, 186, 187, 188, 189, 190, 191, 192, 193, 194, 195, 196, 197, 198, 199, 200, 201, 202, 203, 204, 205, 206, 207, 208, 209, 882, 883, 884, 885, 886, 887, 888, 920, 921, 922, 923, 924, 925, 926, 910, 911, 912, 913, 914, 915, 916, 917, 918, 919] (by decide +kernel) (by decide +kernel)
set_option maxRecDepth 20000 in
theorem gL_law_X5_culprit : GoodIn wsL_law (wsV RL 163 RX5 yX5_culprit wsX5_culprit) := goodIn_app (goodIn_of _ (by decide +kernel)) ggL_law_X5_culprit
set_option maxRecDepth 20000 in
theorem ggL_law_X6_culprit : GoodIn wsL_law wsX6_culprit := goodIn_r _ [817, 232, 818, 819, 820, 5, 821, 444, 90, 440, 441, 442, 443, 96, 94, 95, 445, 446, 340, 341, 342, 343, 317, 318, 319, 320, 305, 306, 307, 308, 321, 322, 323, 324, 309, 310, 311, 312, 325, 326, 327, 447, 448, 449, 450, 451, 437, 438, 439, 768, 769, 770, 771, 91, 242, 243, 244, 245, 749, 750, 751, 752, 772, 773, 774, 775, 889, 890, 891, 892, 893, 894, 895, 896, 897, 898, 899, 900, 901, 902, 903, 904, 905, 906, 907, 908, 909] (by decide +kernel) (by decide +kernel)
set_option maxRecDepth 20000 in
theorem gL_law_X6_culprit : GoodIn wsL_law (wsV RL 166 RX6 yX6_culprit wsX6_culprit) := goodIn_app (goodIn_of _ (by decide +kernel)) ggL_law_X6_culprit
set_option maxRecDepth 20000 in
theorem ggL_law_X5_turningShare : GoodIn wsL_law wsX5_turningShare := goodIn_r _ [825, 16, 20, 704, 19, 705, 706, 707, 596, 597, 598, 53, 882, 883, 884, 885, 886, 887, 888, 910, 911, 912, 913, 914, 915, 916, 917, 918, 919, 920, 921, 922, 923, 924, 925, 926] (by decide +kernel) (by decide +kernel)
set_option maxRecDepth 20000 in
theorem gL_law_X5_turningShare : GoodIn wsL_law (wsV RL 167 RX5 yX5_turningShare wsX5_turningShare) := goodIn_app (goodIn_of _ (by decide +kernel)) ggL_law_X5_turningShare
set_option maxRecDepth 20000 in
theorem ggL_law_X6_turningShare : GoodIn wsL_law wsX6_turningShare := goodIn_r _ [829, 232, 440, 441, 442, 5, 443, 444, 96, 90, 94, 95, 445, 446, 340, 341, 342, 343, 317, 318, 319, 320, 305, 306, 307, 308, 321, 322, 323, 324, 309, 310, 311, 312, 325, 326, 327, 447, 448, 449, 450, 451, 437, 438, 439, 830, 831, 832, 833, 889, 890, 891, 892, 893, 894, 895, 896, 897, 898, 899, 900, 901, 902, 903, 904, 905, 906, 907, 908, 909] (by decide +kernel) (by decide +kernel)
set_option maxRecDepth 20000 in
theorem gL_law_X6_turningShare : GoodIn wsL_law (wsV RL 171 RX6 yX6_turningShare wsX6_turningShare) := goodIn_app (goodIn_of _ (by decide +kernel)) ggL_law_X6_turningShare
set_option maxRecDepth 20000 in
theorem ggL_law_X5_digest : GoodIn wsL_law wsX5_digest := goodIn_r _ [837, 838, 16, 30, 723, 724, 725, 2, 726, 20, 34, 727, 15, 728, 729, 43, 41, 142, 143, 144, 730, 19, 731, 732, 733, 365, 366, 367, 197, 198, 199, 200, 52, 430, 431, 432, 427, 428, 429, 53, 54, 182, 183, 184, 734, 735, 736, 285, 286, 287, 288, 42, 166, 167, 168, 169, 39, 40, 162, 163, 164, 165, 170, 171, 172, 173, 48, 174, 175, 176, 177, 839, 840, 841, 842, 843, 844, 845, 846, 592, 593, 594, 595, 596, 597, 598, 847, 848, 849, 850, 26, 636, 25, 637, 638, 65, 66, 67, 68, 64, 63, 639, 640, 641, 642, 643, 644, 645, 646, 647, 648, 649, 650, 651, 652, 653, 654, 194, 195, 196, 655, 656, 657, 658, 206, 207, 208, 209, 659, 660, 661, 662, 851, 697, 698, 699, 700, 701, 702, 703, 704, 705, 706, 707, 783, 784, 785, 786, 120, 121, 122, 123, 21, 124, 125, 126, 127, 128, 129, 130, 44, 45, 46, 47, 787, 788, 789, 790, 22, 791, 792, 793, 270, 271, 272, 139, 140, 141, 282, 283, 284, 152, 153, 154, 56, 58, 59, 57, 155, 156, 157, 158, 159, 160, 161, 178, 179, 180, 181, 185, 186, 187, 188, 189, 190, 191, 192, 193, 201, 202, 203, 204, 205, 852, 807, 808, 809, 810, 811, 812, 813, 853, 823, 824, 825, 854, 855, 856, 857, 858, 859, 860, 861, 29, 862, 863, 73, 72, 882, 883, 884, 885, 886, 887, 888, 910, 911, 912, 913, 914, 915, 916, 917, 918, 919, 920, 921, 922, 923, 924, 925, 926, 940, 941, 942, 927, 928, 929, 930, 931, 932, 933, 934, 935, 936, 937, 938, 939] (by decide +kernel) (by decide +kernel)
set_option maxRecDepth 20000 in
theorem gL_law_X5_digest : GoodIn wsL_law (wsV RL 172 RX5 yX5_digest wsX5_digest) := goodIn_app (goodIn_of _ (by decide +kernel)) ggL_law_X5_digest
set_option maxRecDepth 20000 in
theorem ggL_law_X6_digest : GoodIn wsL_law wsX6_digest := goodIn_r _ [867, 232, 868, 869, 90, 94, 95, 481, 93, 440, 441, 442, 5, 443, 444, 96, 445, 446, 340, 341, 342, 343, 317, 318, 319, 320, 305, 306, 307, 308, 321, 322, 323, 324, 309, 310, 311, 312, 325, 326, 327, 447, 448, 449, 450, 451, 437, 438, 439, 741, 742, 743, 744, 237, 745, 746, 747, 748, 336, 337, 338, 339, 749, 750, 751, 752, 452, 453, 454, 455, 870, 871, 872, 873, 874, 603, 604, 605, 606, 332, 333, 334, 335, 667, 668, 669, 670, 671, 672, 99, 673, 674, 675, 676, 98, 677, 678, 679, 680, 692, 693, 694, 695, 712, 713, 714, 715, 798, 799, 800, 801, 802, 803, 804, 805, 297, 298, 299, 300, 301, 302, 303, 304, 221, 222, 223, 242, 243, 244, 245, 313, 314, 315, 316, 768, 769, 770, 771, 91, 772, 773, 774, 775, 818, 819, 820, 821, 830, 831, 832, 833, 875, 876, 877, 878, 879, 880, 881, 889, 890, 891, 892, 893, 894, 895, 896, 897, 898, 899, 900, 901, 902, 903, 904, 905, 906, 907, 908, 909] (by decide +kernel) (by decide +kernel)
set_option maxRecDepth 20000 in
theorem gL_law_X6_digest : GoodIn wsL_law (wsV RL 175 RX6 yX6_digest wsX6_digest) := goodIn_app (goodIn_of _ (by decide +kernel)) ggL_law_X6_digest
theorem dL_law_0 : decode cL_law 0 = .ok (.new 8, 3) := by decide +kernel
theorem dL_law_3 : decode cL_law 3 = .ok (.dup, 1) := by decide +kernel
theorem dL_law_4 : decode cL_law 4 = .ok (.invokespecial 79, 3) := by decide +kernel
theorem dL_law_7 : decode cL_law 7 = .ok (.astore_n 1, 1) := by decide +kernel
theorem dL_law_8 : decode cL_law 8 = .ok (.new 80, 3) := by decide +kernel
theorem dL_law_11 : decode cL_law 11 = .ok (.dup, 1) := by decide +kernel
theorem dL_law_12 : decode cL_law 12 = .ok (.invokespecial 82, 3) := by decide +kernel
theorem dL_law_15 : decode cL_law 15 = .ok (.astore_n 2, 1) := by decide +kernel
theorem dL_law_16 : decode cL_law 16 = .ok (.iconst 1, 1) := by decide +kernel
theorem dL_law_17 : decode cL_law 17 = .ok (.newarray .long, 2) := by decide +kernel
theorem dL_law_19 : decode cL_law 19 = .ok (.astore_n 3, 1) := by decide +kernel
theorem dL_law_20 : decode cL_law 20 = .ok (.iconst 0, 1) := by decide +kernel
theorem dL_law_21 : decode cL_law 21 = .ok (.istore 4, 2) := by decide +kernel
theorem dL_law_23 : decode cL_law 23 = .ok (.iload 4, 2) := by decide +kernel
theorem dL_law_25 : decode cL_law 25 = .ok (.aload_n 0, 1) := by decide +kernel
theorem dL_law_26 : decode cL_law 26 = .ok (.arraylength, 1) := by decide +kernel
theorem dL_law_27 : decode cL_law 27 = .ok (.iconst 5, 1) := by decide +kernel
theorem dL_law_28 : decode cL_law 28 = .ok (.isub, 1) := by decide +kernel
theorem dL_law_29 : decode cL_law 29 = .ok (.if_icmp .gt 1503, 3) := by decide +kernel
theorem dL_law_32 : decode cL_law 32 = .ok (.aload_n 0, 1) := by decide +kernel
theorem dL_law_33 : decode cL_law 33 = .ok (.iload 4, 2) := by decide +kernel
theorem dL_law_35 : decode cL_law 35 = .ok (.iaload, 1) := by decide +kernel
theorem dL_law_36 : decode cL_law 36 = .ok (.bipush 31, 2) := by decide +kernel
theorem dL_law_38 : decode cL_law 38 = .ok (.iand, 1) := by decide +kernel
theorem dL_law_39 : decode cL_law 39 = .ok (.tableswitch 1487 0 24 #[113, 181, 261, 341, 421, 477, 533, 613, 669, 725, 738, 751, 795, 839, 907, 974, 1042, 1122, 1201, 1215, 1271, 1363, 1419, 1432, 1473], 113) := by decide +kernel
theorem dL_law_152 : decode cL_law 152 = .ok (.aload_n 1, 1) := by decide +kernel
theorem dL_law_153 : decode cL_law 153 = .ok (.aload_n 0, 1) := by decide +kernel
theorem dL_law_154 : decode cL_law 154 = .ok (.iload 4, 2) := by decide +kernel
theorem dL_law_156 : decode cL_law 156 = .ok (.iconst 1, 1) := by decide +kernel
theorem dL_law_157 : decode cL_law 157 = .ok (.iadd, 1) := by decide +kernel
theorem dL_law_158 : decode cL_law 158 = .ok (.iaload, 1) := by decide +kernel
theorem dL_law_159 : decode cL_law 159 = .ok (.aload_n 0, 1) := by decide +kernel
theorem dL_law_160 : decode cL_law 160 = .ok (.iload 4, 2) := by decide +kernel
theorem dL_law_162 : decode cL_law 162 = .ok (.iconst 2, 1) := by decide +kernel
theorem dL_law_163 : decode cL_law 163 = .ok (.iadd, 1) := by decide +kernel
theorem dL_law_164 : decode cL_law 164 = .ok (.iaload, 1) := by decide +kernel
theorem dL_law_165 : decode cL_law 165 = .ok (.aload_n 3, 1) := by decide +kernel
theorem dL_law_166 : decode cL_law 166 = .ok (.invokestatic 83, 3) := by decide +kernel
theorem dL_law_169 : decode cL_law 169 = .ok (.istore 5, 2) := by decide +kernel
theorem dL_law_171 : decode cL_law 171 = .ok (.aload_n 2, 1) := by decide +kernel
theorem dL_law_172 : decode cL_law 172 = .ok (.aload_n 0, 1) := by decide +kernel
theorem dL_law_173 : decode cL_law 173 = .ok (.iload 4, 2) := by decide +kernel
theorem dL_law_175 : decode cL_law 175 = .ok (.iconst 1, 1) := by decide +kernel
theorem dL_law_176 : decode cL_law 176 = .ok (.iadd, 1) := by decide +kernel
theorem dL_law_177 : decode cL_law 177 = .ok (.iaload, 1) := by decide +kernel
theorem dL_law_178 : decode cL_law 178 = .ok (.aload_n 0, 1) := by decide +kernel
theorem dL_law_179 : decode cL_law 179 = .ok (.iload 4, 2) := by decide +kernel
theorem dL_law_181 : decode cL_law 181 = .ok (.iconst 2, 1) := by decide +kernel
theorem dL_law_182 : decode cL_law 182 = .ok (.iadd, 1) := by decide +kernel
theorem dL_law_183 : decode cL_law 183 = .ok (.iaload, 1) := by decide +kernel
theorem dL_law_184 : decode cL_law 184 = .ok (.invokevirtual 88, 3) := by decide +kernel
theorem dL_law_187 : decode cL_law 187 = .ok (.istore 6, 2) := by decide +kernel
theorem dL_law_189 : decode cL_law 189 = .ok (.aload_n 2, 1) := by decide +kernel
theorem dL_law_190 : decode cL_law 190 = .ok (.invokevirtual 89, 3) := by decide +kernel
theorem dL_law_193 : decode cL_law 193 = .ok (.iload 5, 2) := by decide +kernel
theorem dL_law_195 : decode cL_law 195 = .ok (.if_icmp .eq 5, 3) := by decide +kernel
theorem dL_law_198 : decode cL_law 198 = .ok (.iconst 0, 1) := by decide +kernel
theorem dL_law_199 : decode cL_law 199 = .ok (.ireturn, 1) := by decide +kernel
theorem dL_law_200 : decode cL_law 200 = .ok (.iload 5, 2) := by decide +kernel
theorem dL_law_202 : decode cL_law 202 = .ok (.ifCond .ne 15, 3) := by decide +kernel
theorem dL_law_205 : decode cL_law 205 = .ok (.aload_n 3, 1) := by decide +kernel
theorem dL_law_206 : decode cL_law 206 = .ok (.iconst 0, 1) := by decide +kernel
theorem dL_law_207 : decode cL_law 207 = .ok (.laload, 1) := by decide +kernel
theorem dL_law_208 : decode cL_law 208 = .ok (.iload 6, 2) := by decide +kernel
theorem dL_law_210 : decode cL_law 210 = .ok (.i2l, 1) := by decide +kernel
theorem dL_law_211 : decode cL_law 211 = .ok (.lcmp, 1) := by decide +kernel
theorem dL_law_212 : decode cL_law 212 = .ok (.ifCond .eq 5, 3) := by decide +kernel
theorem dL_law_215 : decode cL_law 215 = .ok (.iconst 0, 1) := by decide +kernel
theorem dL_law_216 : decode cL_law 216 = .ok (.ireturn, 1) := by decide +kernel
theorem dL_law_217 : decode cL_law 217 = .ok (.goto 1309, 3) := by decide +kernel
theorem dL_law_220 : decode cL_law 220 = .ok (.aload_n 1, 1) := by decide +kernel
theorem dL_law_221 : decode cL_law 221 = .ok (.aload_n 0, 1) := by decide +kernel
theorem dL_law_222 : decode cL_law 222 = .ok (.iload 4, 2) := by decide +kernel
theorem dL_law_224 : decode cL_law 224 = .ok (.iconst 1, 1) := by decide +kernel
theorem dL_law_225 : decode cL_law 225 = .ok (.iadd, 1) := by decide +kernel
theorem dL_law_226 : decode cL_law 226 = .ok (.iaload, 1) := by decide +kernel
theorem dL_law_227 : decode cL_law 227 = .ok (.aload_n 0, 1) := by decide +kernel
theorem dL_law_228 : decode cL_law 228 = .ok (.iload 4, 2) := by decide +kernel
theorem dL_law_230 : decode cL_law 230 = .ok (.iconst 2, 1) := by decide +kernel
theorem dL_law_231 : decode cL_law 231 = .ok (.iadd, 1) := by decide +kernel
theorem dL_law_232 : decode cL_law 232 = .ok (.iaload, 1) := by decide +kernel
theorem dL_law_233 : decode cL_law 233 = .ok (.aload_n 0, 1) := by decide +kernel
theorem dL_law_234 : decode cL_law 234 = .ok (.iload 4, 2) := by decide +kernel
theorem dL_law_236 : decode cL_law 236 = .ok (.iconst 3, 1) := by decide +kernel
theorem dL_law_237 : decode cL_law 237 = .ok (.iadd, 1) := by decide +kernel
theorem dL_law_238 : decode cL_law 238 = .ok (.iaload, 1) := by decide +kernel
theorem dL_law_239 : decode cL_law 239 = .ok (.aload_n 3, 1) := by decide +kernel
theorem dL_law_240 : decode cL_law 240 = .ok (.invokestatic 92, 3) := by decide +kernel
theorem dL_law_243 : decode cL_law 243 = .ok (.istore 5, 2) := by decide +kernel
theorem dL_law_245 : decode cL_law 245 = .ok (.aload_n 2, 1) := by decide +kernel
theorem dL_law_246 : decode cL_law 246 = .ok (.aload_n 0, 1) := by decide +kernel
theorem dL_law_247 : decode cL_law 247 = .ok (.iload 4, 2) := by decide +kernel
theorem dL_law_249 : decode cL_law 249 = .ok (.iconst 1, 1) := by decide +kernel
theorem dL_law_250 : decode cL_law 250 = .ok (.iadd, 1) := by decide +kernel
theorem dL_law_251 : decode cL_law 251 = .ok (.iaload, 1) := by decide +kernel
theorem dL_law_252 : decode cL_law 252 = .ok (.aload_n 0, 1) := by decide +kernel
theorem dL_law_253 : decode cL_law 253 = .ok (.iload 4, 2) := by decide +kernel
theorem dL_law_255 : decode cL_law 255 = .ok (.iconst 2, 1) := by decide +kernel
theorem dL_law_256 : decode cL_law 256 = .ok (.iadd, 1) := by decide +kernel
theorem dL_law_257 : decode cL_law 257 = .ok (.iaload, 1) := by decide +kernel
theorem dL_law_258 : decode cL_law 258 = .ok (.aload_n 0, 1) := by decide +kernel
theorem dL_law_259 : decode cL_law 259 = .ok (.iload 4, 2) := by decide +kernel
theorem dL_law_261 : decode cL_law 261 = .ok (.iconst 3, 1) := by decide +kernel
theorem dL_law_262 : decode cL_law 262 = .ok (.iadd, 1) := by decide +kernel
theorem dL_law_263 : decode cL_law 263 = .ok (.iaload, 1) := by decide +kernel
theorem dL_law_264 : decode cL_law 264 = .ok (.invokevirtual 95, 3) := by decide +kernel
theorem dL_law_267 : decode cL_law 267 = .ok (.istore 6, 2) := by decide +kernel
theorem dL_law_269 : decode cL_law 269 = .ok (.aload_n 2, 1) := by decide +kernel
theorem dL_law_270 : decode cL_law 270 = .ok (.invokevirtual 89, 3) := by decide +kernel
theorem dL_law_273 : decode cL_law 273 = .ok (.iload 5, 2) := by decide +kernel
theorem dL_law_275 : decode cL_law 275 = .ok (.if_icmp .eq 5, 3) := by decide +kernel
theorem dL_law_278 : decode cL_law 278 = .ok (.iconst 0, 1) := by decide +kernel
theorem dL_law_279 : decode cL_law 279 = .ok (.ireturn, 1) := by decide +kernel
theorem dL_law_280 : decode cL_law 280 = .ok (.iload 5, 2) := by decide +kernel
theorem dL_law_282 : decode cL_law 282 = .ok (.ifCond .ne 15, 3) := by decide +kernel
theorem dL_law_285 : decode cL_law 285 = .ok (.aload_n 3, 1) := by decide +kernel
theorem dL_law_286 : decode cL_law 286 = .ok (.iconst 0, 1) := by decide +kernel
theorem dL_law_287 : decode cL_law 287 = .ok (.laload, 1) := by decide +kernel
theorem dL_law_288 : decode cL_law 288 = .ok (.iload 6, 2) := by decide +kernel
theorem dL_law_290 : decode cL_law 290 = .ok (.i2l, 1) := by decide +kernel
theorem dL_law_291 : decode cL_law 291 = .ok (.lcmp, 1) := by decide +kernel
theorem dL_law_292 : decode cL_law 292 = .ok (.ifCond .eq 5, 3) := by decide +kernel
theorem dL_law_295 : decode cL_law 295 = .ok (.iconst 0, 1) := by decide +kernel
theorem dL_law_296 : decode cL_law 296 = .ok (.ireturn, 1) := by decide +kernel
theorem dL_law_297 : decode cL_law 297 = .ok (.goto 1229, 3) := by decide +kernel
theorem dL_law_300 : decode cL_law 300 = .ok (.aload_n 1, 1) := by decide +kernel
theorem dL_law_301 : decode cL_law 301 = .ok (.aload_n 0, 1) := by decide +kernel
theorem dL_law_302 : decode cL_law 302 = .ok (.iload 4, 2) := by decide +kernel
theorem dL_law_304 : decode cL_law 304 = .ok (.iconst 1, 1) := by decide +kernel
theorem dL_law_305 : decode cL_law 305 = .ok (.iadd, 1) := by decide +kernel
theorem dL_law_306 : decode cL_law 306 = .ok (.iaload, 1) := by decide +kernel
theorem dL_law_307 : decode cL_law 307 = .ok (.aload_n 0, 1) := by decide +kernel
theorem dL_law_308 : decode cL_law 308 = .ok (.iload 4, 2) := by decide +kernel
theorem dL_law_310 : decode cL_law 310 = .ok (.iconst 2, 1) := by decide +kernel
theorem dL_law_311 : decode cL_law 311 = .ok (.iadd, 1) := by decide +kernel
theorem dL_law_312 : decode cL_law 312 = .ok (.iaload, 1) := by decide +kernel
theorem dL_law_313 : decode cL_law 313 = .ok (.aload_n 0, 1) := by decide +kernel
theorem dL_law_314 : decode cL_law 314 = .ok (.iload 4, 2) := by decide +kernel
theorem dL_law_316 : decode cL_law 316 = .ok (.iconst 3, 1) := by decide +kernel
theorem dL_law_317 : decode cL_law 317 = .ok (.iadd, 1) := by decide +kernel
theorem dL_law_318 : decode cL_law 318 = .ok (.iaload, 1) := by decide +kernel
theorem dL_law_319 : decode cL_law 319 = .ok (.aload_n 3, 1) := by decide +kernel
theorem dL_law_320 : decode cL_law 320 = .ok (.invokestatic 96, 3) := by decide +kernel
theorem dL_law_323 : decode cL_law 323 = .ok (.istore 5, 2) := by decide +kernel
theorem dL_law_325 : decode cL_law 325 = .ok (.aload_n 2, 1) := by decide +kernel
theorem dL_law_326 : decode cL_law 326 = .ok (.aload_n 0, 1) := by decide +kernel
theorem dL_law_327 : decode cL_law 327 = .ok (.iload 4, 2) := by decide +kernel
theorem dL_law_329 : decode cL_law 329 = .ok (.iconst 1, 1) := by decide +kernel
theorem dL_law_330 : decode cL_law 330 = .ok (.iadd, 1) := by decide +kernel
theorem dL_law_331 : decode cL_law 331 = .ok (.iaload, 1) := by decide +kernel
theorem dL_law_332 : decode cL_law 332 = .ok (.aload_n 0, 1) := by decide +kernel
theorem dL_law_333 : decode cL_law 333 = .ok (.iload 4, 2) := by decide +kernel
theorem dL_law_335 : decode cL_law 335 = .ok (.iconst 2, 1) := by decide +kernel
theorem dL_law_336 : decode cL_law 336 = .ok (.iadd, 1) := by decide +kernel
theorem dL_law_337 : decode cL_law 337 = .ok (.iaload, 1) := by decide +kernel
theorem dL_law_338 : decode cL_law 338 = .ok (.aload_n 0, 1) := by decide +kernel
theorem dL_law_339 : decode cL_law 339 = .ok (.iload 4, 2) := by decide +kernel
theorem dL_law_341 : decode cL_law 341 = .ok (.iconst 3, 1) := by decide +kernel
theorem dL_law_342 : decode cL_law 342 = .ok (.iadd, 1) := by decide +kernel
theorem dL_law_343 : decode cL_law 343 = .ok (.iaload, 1) := by decide +kernel
theorem dL_law_344 : decode cL_law 344 = .ok (.invokevirtual 98, 3) := by decide +kernel
theorem dL_law_347 : decode cL_law 347 = .ok (.istore 6, 2) := by decide +kernel
theorem dL_law_349 : decode cL_law 349 = .ok (.aload_n 2, 1) := by decide +kernel
theorem dL_law_350 : decode cL_law 350 = .ok (.invokevirtual 89, 3) := by decide +kernel
theorem dL_law_353 : decode cL_law 353 = .ok (.iload 5, 2) := by decide +kernel
theorem dL_law_355 : decode cL_law 355 = .ok (.if_icmp .eq 5, 3) := by decide +kernel
theorem dL_law_358 : decode cL_law 358 = .ok (.iconst 0, 1) := by decide +kernel
theorem dL_law_359 : decode cL_law 359 = .ok (.ireturn, 1) := by decide +kernel
theorem dL_law_360 : decode cL_law 360 = .ok (.iload 5, 2) := by decide +kernel
theorem dL_law_362 : decode cL_law 362 = .ok (.ifCond .ne 15, 3) := by decide +kernel
theorem dL_law_365 : decode cL_law 365 = .ok (.aload_n 3, 1) := by decide +kernel
theorem dL_law_366 : decode cL_law 366 = .ok (.iconst 0, 1) := by decide +kernel
theorem dL_law_367 : decode cL_law 367 = .ok (.laload, 1) := by decide +kernel
theorem dL_law_368 : decode cL_law 368 = .ok (.iload 6, 2) := by decide +kernel
theorem dL_law_370 : decode cL_law 370 = .ok (.i2l, 1) := by decide +kernel
theorem dL_law_371 : decode cL_law 371 = .ok (.lcmp, 1) := by decide +kernel
theorem dL_law_372 : decode cL_law 372 = .ok (.ifCond .eq 5, 3) := by decide +kernel
theorem dL_law_375 : decode cL_law 375 = .ok (.iconst 0, 1) := by decide +kernel
theorem dL_law_376 : decode cL_law 376 = .ok (.ireturn, 1) := by decide +kernel
theorem dL_law_377 : decode cL_law 377 = .ok (.goto 1149, 3) := by decide +kernel
theorem dL_law_380 : decode cL_law 380 = .ok (.aload_n 1, 1) := by decide +kernel
theorem dL_law_381 : decode cL_law 381 = .ok (.aload_n 0, 1) := by decide +kernel
theorem dL_law_382 : decode cL_law 382 = .ok (.iload 4, 2) := by decide +kernel
theorem dL_law_384 : decode cL_law 384 = .ok (.iconst 1, 1) := by decide +kernel
theorem dL_law_385 : decode cL_law 385 = .ok (.iadd, 1) := by decide +kernel
theorem dL_law_386 : decode cL_law 386 = .ok (.iaload, 1) := by decide +kernel
theorem dL_law_387 : decode cL_law 387 = .ok (.aload_n 0, 1) := by decide +kernel
theorem dL_law_388 : decode cL_law 388 = .ok (.iload 4, 2) := by decide +kernel
theorem dL_law_390 : decode cL_law 390 = .ok (.iconst 2, 1) := by decide +kernel
theorem dL_law_391 : decode cL_law 391 = .ok (.iadd, 1) := by decide +kernel
theorem dL_law_392 : decode cL_law 392 = .ok (.iaload, 1) := by decide +kernel
theorem dL_law_393 : decode cL_law 393 = .ok (.aload_n 0, 1) := by decide +kernel
theorem dL_law_394 : decode cL_law 394 = .ok (.iload 4, 2) := by decide +kernel
theorem dL_law_396 : decode cL_law 396 = .ok (.iconst 3, 1) := by decide +kernel
theorem dL_law_397 : decode cL_law 397 = .ok (.iadd, 1) := by decide +kernel
theorem dL_law_398 : decode cL_law 398 = .ok (.iaload, 1) := by decide +kernel
theorem dL_law_399 : decode cL_law 399 = .ok (.aload_n 3, 1) := by decide +kernel
theorem dL_law_400 : decode cL_law 400 = .ok (.invokestatic 99, 3) := by decide +kernel
theorem dL_law_403 : decode cL_law 403 = .ok (.istore 5, 2) := by decide +kernel
theorem dL_law_405 : decode cL_law 405 = .ok (.aload_n 2, 1) := by decide +kernel
theorem dL_law_406 : decode cL_law 406 = .ok (.aload_n 0, 1) := by decide +kernel
theorem dL_law_407 : decode cL_law 407 = .ok (.iload 4, 2) := by decide +kernel
theorem dL_law_409 : decode cL_law 409 = .ok (.iconst 1, 1) := by decide +kernel
theorem dL_law_410 : decode cL_law 410 = .ok (.iadd, 1) := by decide +kernel
theorem dL_law_411 : decode cL_law 411 = .ok (.iaload, 1) := by decide +kernel
theorem dL_law_412 : decode cL_law 412 = .ok (.aload_n 0, 1) := by decide +kernel
theorem dL_law_413 : decode cL_law 413 = .ok (.iload 4, 2) := by decide +kernel
theorem dL_law_415 : decode cL_law 415 = .ok (.iconst 2, 1) := by decide +kernel
theorem dL_law_416 : decode cL_law 416 = .ok (.iadd, 1) := by decide +kernel
theorem dL_law_417 : decode cL_law 417 = .ok (.iaload, 1) := by decide +kernel
theorem dL_law_418 : decode cL_law 418 = .ok (.aload_n 0, 1) := by decide +kernel
theorem dL_law_419 : decode cL_law 419 = .ok (.iload 4, 2) := by decide +kernel
theorem dL_law_421 : decode cL_law 421 = .ok (.iconst 3, 1) := by decide +kernel
theorem dL_law_422 : decode cL_law 422 = .ok (.iadd, 1) := by decide +kernel
theorem dL_law_423 : decode cL_law 423 = .ok (.iaload, 1) := by decide +kernel
theorem dL_law_424 : decode cL_law 424 = .ok (.invokevirtual 101, 3) := by decide +kernel
theorem dL_law_427 : decode cL_law 427 = .ok (.istore 6, 2) := by decide +kernel
theorem dL_law_429 : decode cL_law 429 = .ok (.aload_n 2, 1) := by decide +kernel
theorem dL_law_430 : decode cL_law 430 = .ok (.invokevirtual 89, 3) := by decide +kernel
theorem dL_law_433 : decode cL_law 433 = .ok (.iload 5, 2) := by decide +kernel
theorem dL_law_435 : decode cL_law 435 = .ok (.if_icmp .eq 5, 3) := by decide +kernel
theorem dL_law_438 : decode cL_law 438 = .ok (.iconst 0, 1) := by decide +kernel
theorem dL_law_439 : decode cL_law 439 = .ok (.ireturn, 1) := by decide +kernel
theorem dL_law_440 : decode cL_law 440 = .ok (.iload 5, 2) := by decide +kernel
theorem dL_law_442 : decode cL_law 442 = .ok (.ifCond .ne 15, 3) := by decide +kernel
theorem dL_law_445 : decode cL_law 445 = .ok (.aload_n 3, 1) := by decide +kernel
theorem dL_law_446 : decode cL_law 446 = .ok (.iconst 0, 1) := by decide +kernel
theorem dL_law_447 : decode cL_law 447 = .ok (.laload, 1) := by decide +kernel
theorem dL_law_448 : decode cL_law 448 = .ok (.iload 6, 2) := by decide +kernel
theorem dL_law_450 : decode cL_law 450 = .ok (.i2l, 1) := by decide +kernel
theorem dL_law_451 : decode cL_law 451 = .ok (.lcmp, 1) := by decide +kernel
theorem dL_law_452 : decode cL_law 452 = .ok (.ifCond .eq 5, 3) := by decide +kernel
theorem dL_law_455 : decode cL_law 455 = .ok (.iconst 0, 1) := by decide +kernel
theorem dL_law_456 : decode cL_law 456 = .ok (.ireturn, 1) := by decide +kernel
theorem dL_law_457 : decode cL_law 457 = .ok (.goto 1069, 3) := by decide +kernel
theorem dL_law_460 : decode cL_law 460 = .ok (.aload_n 1, 1) := by decide +kernel
theorem dL_law_461 : decode cL_law 461 = .ok (.aload_n 0, 1) := by decide +kernel
theorem dL_law_462 : decode cL_law 462 = .ok (.iload 4, 2) := by decide +kernel
theorem dL_law_464 : decode cL_law 464 = .ok (.iconst 1, 1) := by decide +kernel
theorem dL_law_465 : decode cL_law 465 = .ok (.iadd, 1) := by decide +kernel
theorem dL_law_466 : decode cL_law 466 = .ok (.iaload, 1) := by decide +kernel
theorem dL_law_467 : decode cL_law 467 = .ok (.aload_n 3, 1) := by decide +kernel
theorem dL_law_468 : decode cL_law 468 = .ok (.invokestatic 102, 3) := by decide +kernel
theorem dL_law_471 : decode cL_law 471 = .ok (.istore 5, 2) := by decide +kernel
theorem dL_law_473 : decode cL_law 473 = .ok (.aload_n 2, 1) := by decide +kernel
theorem dL_law_474 : decode cL_law 474 = .ok (.aload_n 0, 1) := by decide +kernel
theorem dL_law_475 : decode cL_law 475 = .ok (.iload 4, 2) := by decide +kernel
theorem dL_law_477 : decode cL_law 477 = .ok (.iconst 1, 1) := by decide +kernel
theorem dL_law_478 : decode cL_law 478 = .ok (.iadd, 1) := by decide +kernel
theorem dL_law_479 : decode cL_law 479 = .ok (.iaload, 1) := by decide +kernel
theorem dL_law_480 : decode cL_law 480 = .ok (.invokevirtual 105, 3) := by decide +kernel
theorem dL_law_483 : decode cL_law 483 = .ok (.istore 6, 2) := by decide +kernel
theorem dL_law_485 : decode cL_law 485 = .ok (.aload_n 2, 1) := by decide +kernel
theorem dL_law_486 : decode cL_law 486 = .ok (.invokevirtual 89, 3) := by decide +kernel
theorem dL_law_489 : decode cL_law 489 = .ok (.iload 5, 2) := by decide +kernel
theorem dL_law_491 : decode cL_law 491 = .ok (.if_icmp .eq 5, 3) := by decide +kernel
theorem dL_law_494 : decode cL_law 494 = .ok (.iconst 0, 1) := by decide +kernel
theorem dL_law_495 : decode cL_law 495 = .ok (.ireturn, 1) := by decide +kernel
theorem dL_law_496 : decode cL_law 496 = .ok (.iload 5, 2) := by decide +kernel
theorem dL_law_498 : decode cL_law 498 = .ok (.ifCond .ne 15, 3) := by decide +kernel
theorem dL_law_501 : decode cL_law 501 = .ok (.aload_n 3, 1) := by decide +kernel
theorem dL_law_502 : decode cL_law 502 = .ok (.iconst 0, 1) := by decide +kernel
theorem dL_law_503 : decode cL_law 503 = .ok (.laload, 1) := by decide +kernel
theorem dL_law_504 : decode cL_law 504 = .ok (.iload 6, 2) := by decide +kernel
theorem dL_law_506 : decode cL_law 506 = .ok (.i2l, 1) := by decide +kernel
theorem dL_law_507 : decode cL_law 507 = .ok (.lcmp, 1) := by decide +kernel
theorem dL_law_508 : decode cL_law 508 = .ok (.ifCond .eq 5, 3) := by decide +kernel
theorem dL_law_511 : decode cL_law 511 = .ok (.iconst 0, 1) := by decide +kernel
theorem dL_law_512 : decode cL_law 512 = .ok (.ireturn, 1) := by decide +kernel
theorem dL_law_513 : decode cL_law 513 = .ok (.goto 1013, 3) := by decide +kernel
theorem dL_law_516 : decode cL_law 516 = .ok (.aload_n 1, 1) := by decide +kernel
theorem dL_law_517 : decode cL_law 517 = .ok (.aload_n 0, 1) := by decide +kernel
theorem dL_law_518 : decode cL_law 518 = .ok (.iload 4, 2) := by decide +kernel
theorem dL_law_520 : decode cL_law 520 = .ok (.iconst 1, 1) := by decide +kernel
theorem dL_law_521 : decode cL_law 521 = .ok (.iadd, 1) := by decide +kernel
theorem dL_law_522 : decode cL_law 522 = .ok (.iaload, 1) := by decide +kernel
theorem dL_law_523 : decode cL_law 523 = .ok (.aload_n 3, 1) := by decide +kernel
theorem dL_law_524 : decode cL_law 524 = .ok (.invokestatic 106, 3) := by decide +kernel
theorem dL_law_527 : decode cL_law 527 = .ok (.istore 5, 2) := by decide +kernel
theorem dL_law_529 : decode cL_law 529 = .ok (.aload_n 2, 1) := by decide +kernel
theorem dL_law_530 : decode cL_law 530 = .ok (.aload_n 0, 1) := by decide +kernel
theorem dL_law_531 : decode cL_law 531 = .ok (.iload 4, 2) := by decide +kernel
theorem dL_law_533 : decode cL_law 533 = .ok (.iconst 1, 1) := by decide +kernel
theorem dL_law_534 : decode cL_law 534 = .ok (.iadd, 1) := by decide +kernel
theorem dL_law_535 : decode cL_law 535 = .ok (.iaload, 1) := by decide +kernel
theorem dL_law_536 : decode cL_law 536 = .ok (.invokevirtual 108, 3) := by decide +kernel
theorem dL_law_539 : decode cL_law 539 = .ok (.istore 6, 2) := by decide +kernel
theorem dL_law_541 : decode cL_law 541 = .ok (.aload_n 2, 1) := by decide +kernel
theorem dL_law_542 : decode cL_law 542 = .ok (.invokevirtual 89, 3) := by decide +kernel
theorem dL_law_545 : decode cL_law 545 = .ok (.iload 5, 2) := by decide +kernel
theorem dL_law_547 : decode cL_law 547 = .ok (.if_icmp .eq 5, 3) := by decide +kernel
theorem dL_law_550 : decode cL_law 550 = .ok (.iconst 0, 1) := by decide +kernel
theorem dL_law_551 : decode cL_law 551 = .ok (.ireturn, 1) := by decide +kernel
theorem dL_law_552 : decode cL_law 552 = .ok (.iload 5, 2) := by decide +kernel
theorem dL_law_554 : decode cL_law 554 = .ok (.ifCond .ne 15, 3) := by decide +kernel
theorem dL_law_557 : decode cL_law 557 = .ok (.aload_n 3, 1) := by decide +kernel
theorem dL_law_558 : decode cL_law 558 = .ok (.iconst 0, 1) := by decide +kernel
theorem dL_law_559 : decode cL_law 559 = .ok (.laload, 1) := by decide +kernel
theorem dL_law_560 : decode cL_law 560 = .ok (.iload 6, 2) := by decide +kernel
theorem dL_law_562 : decode cL_law 562 = .ok (.i2l, 1) := by decide +kernel
theorem dL_law_563 : decode cL_law 563 = .ok (.lcmp, 1) := by decide +kernel
theorem dL_law_564 : decode cL_law 564 = .ok (.ifCond .eq 5, 3) := by decide +kernel
theorem dL_law_567 : decode cL_law 567 = .ok (.iconst 0, 1) := by decide +kernel
theorem dL_law_568 : decode cL_law 568 = .ok (.ireturn, 1) := by decide +kernel
theorem dL_law_569 : decode cL_law 569 = .ok (.goto 957, 3) := by decide +kernel
theorem dL_law_572 : decode cL_law 572 = .ok (.aload_n 1, 1) := by decide +kernel
theorem dL_law_573 : decode cL_law 573 = .ok (.aload_n 0, 1) := by decide +kernel
theorem dL_law_574 : decode cL_law 574 = .ok (.iload 4, 2) := by decide +kernel
theorem dL_law_576 : decode cL_law 576 = .ok (.iconst 1, 1) := by decide +kernel
theorem dL_law_577 : decode cL_law 577 = .ok (.iadd, 1) := by decide +kernel
theorem dL_law_578 : decode cL_law 578 = .ok (.iaload, 1) := by decide +kernel
theorem dL_law_579 : decode cL_law 579 = .ok (.aload_n 0, 1) := by decide +kernel
theorem dL_law_580 : decode cL_law 580 = .ok (.iload 4, 2) := by decide +kernel
theorem dL_law_582 : decode cL_law 582 = .ok (.iconst 2, 1) := by decide +kernel
theorem dL_law_583 : decode cL_law 583 = .ok (.iadd, 1) := by decide +kernel
theorem dL_law_584 : decode cL_law 584 = .ok (.iaload, 1) := by decide +kernel
theorem dL_law_585 : decode cL_law 585 = .ok (.aload_n 0, 1) := by decide +kernel
theorem dL_law_586 : decode cL_law 586 = .ok (.iload 4, 2) := by decide +kernel
theorem dL_law_588 : decode cL_law 588 = .ok (.iconst 3, 1) := by decide +kernel
theorem dL_law_589 : decode cL_law 589 = .ok (.iadd, 1) := by decide +kernel
theorem dL_law_590 : decode cL_law 590 = .ok (.iaload, 1) := by decide +kernel
theorem dL_law_591 : decode cL_law 591 = .ok (.aload_n 3, 1) := by decide +kernel
theorem dL_law_592 : decode cL_law 592 = .ok (.invokestatic 109, 3) := by decide +kernel
theorem dL_law_595 : decode cL_law 595 = .ok (.istore 5, 2) := by decide +kernel
theorem dL_law_597 : decode cL_law 597 = .ok (.aload_n 2, 1) := by decide +kernel
theorem dL_law_598 : decode cL_law 598 = .ok (.aload_n 0, 1) := by decide +kernel
theorem dL_law_599 : decode cL_law 599 = .ok (.iload 4, 2) := by decide +kernel
theorem dL_law_601 : decode cL_law 601 = .ok (.iconst 1, 1) := by decide +kernel
theorem dL_law_602 : decode cL_law 602 = .ok (.iadd, 1) := by decide +kernel
theorem dL_law_603 : decode cL_law 603 = .ok (.iaload, 1) := by decide +kernel
theorem dL_law_604 : decode cL_law 604 = .ok (.aload_n 0, 1) := by decide +kernel
theorem dL_law_605 : decode cL_law 605 = .ok (.iload 4, 2) := by decide +kernel
theorem dL_law_607 : decode cL_law 607 = .ok (.iconst 2, 1) := by decide +kernel
theorem dL_law_608 : decode cL_law 608 = .ok (.iadd, 1) := by decide +kernel
theorem dL_law_609 : decode cL_law 609 = .ok (.iaload, 1) := by decide +kernel
theorem dL_law_610 : decode cL_law 610 = .ok (.aload_n 0, 1) := by decide +kernel
theorem dL_law_611 : decode cL_law 611 = .ok (.iload 4, 2) := by decide +kernel
theorem dL_law_613 : decode cL_law 613 = .ok (.iconst 3, 1) := by decide +kernel
theorem dL_law_614 : decode cL_law 614 = .ok (.iadd, 1) := by decide +kernel
theorem dL_law_615 : decode cL_law 615 = .ok (.iaload, 1) := by decide +kernel
theorem dL_law_616 : decode cL_law 616 = .ok (.invokevirtual 111, 3) := by decide +kernel
theorem dL_law_619 : decode cL_law 619 = .ok (.istore 6, 2) := by decide +kernel
theorem dL_law_621 : decode cL_law 621 = .ok (.aload_n 2, 1) := by decide +kernel
theorem dL_law_622 : decode cL_law 622 = .ok (.invokevirtual 89, 3) := by decide +kernel
theorem dL_law_625 : decode cL_law 625 = .ok (.iload 5, 2) := by decide +kernel
theorem dL_law_627 : decode cL_law 627 = .ok (.if_icmp .eq 5, 3) := by decide +kernel
theorem dL_law_630 : decode cL_law 630 = .ok (.iconst 0, 1) := by decide +kernel
theorem dL_law_631 : decode cL_law 631 = .ok (.ireturn, 1) := by decide +kernel
theorem dL_law_632 : decode cL_law 632 = .ok (.iload 5, 2) := by decide +kernel
theorem dL_law_634 : decode cL_law 634 = .ok (.ifCond .ne 15, 3) := by decide +kernel
theorem dL_law_637 : decode cL_law 637 = .ok (.aload_n 3, 1) := by decide +kernel
theorem dL_law_638 : decode cL_law 638 = .ok (.iconst 0, 1) := by decide +kernel
theorem dL_law_639 : decode cL_law 639 = .ok (.laload, 1) := by decide +kernel
theorem dL_law_640 : decode cL_law 640 = .ok (.iload 6, 2) := by decide +kernel
theorem dL_law_642 : decode cL_law 642 = .ok (.i2l, 1) := by decide +kernel
theorem dL_law_643 : decode cL_law 643 = .ok (.lcmp, 1) := by decide +kernel
theorem dL_law_644 : decode cL_law 644 = .ok (.ifCond .eq 5, 3) := by decide +kernel
theorem dL_law_647 : decode cL_law 647 = .ok (.iconst 0, 1) := by decide +kernel
theorem dL_law_648 : decode cL_law 648 = .ok (.ireturn, 1) := by decide +kernel
theorem dL_law_649 : decode cL_law 649 = .ok (.goto 877, 3) := by decide +kernel
theorem dL_law_652 : decode cL_law 652 = .ok (.aload_n 1, 1) := by decide +kernel
theorem dL_law_653 : decode cL_law 653 = .ok (.aload_n 0, 1) := by decide +kernel
theorem dL_law_654 : decode cL_law 654 = .ok (.iload 4, 2) := by decide +kernel
theorem dL_law_656 : decode cL_law 656 = .ok (.iconst 1, 1) := by decide +kernel
theorem dL_law_657 : decode cL_law 657 = .ok (.iadd, 1) := by decide +kernel
theorem dL_law_658 : decode cL_law 658 = .ok (.iaload, 1) := by decide +kernel
theorem dL_law_659 : decode cL_law 659 = .ok (.aload_n 3, 1) := by decide +kernel
theorem dL_law_660 : decode cL_law 660 = .ok (.invokestatic 112, 3) := by decide +kernel
theorem dL_law_663 : decode cL_law 663 = .ok (.istore 5, 2) := by decide +kernel
theorem dL_law_665 : decode cL_law 665 = .ok (.aload_n 2, 1) := by decide +kernel
theorem dL_law_666 : decode cL_law 666 = .ok (.aload_n 0, 1) := by decide +kernel
theorem dL_law_667 : decode cL_law 667 = .ok (.iload 4, 2) := by decide +kernel
theorem dL_law_669 : decode cL_law 669 = .ok (.iconst 1, 1) := by decide +kernel
theorem dL_law_670 : decode cL_law 670 = .ok (.iadd, 1) := by decide +kernel
theorem dL_law_671 : decode cL_law 671 = .ok (.iaload, 1) := by decide +kernel
theorem dL_law_672 : decode cL_law 672 = .ok (.invokevirtual 114, 3) := by decide +kernel
theorem dL_law_675 : decode cL_law 675 = .ok (.istore 6, 2) := by decide +kernel
theorem dL_law_677 : decode cL_law 677 = .ok (.aload_n 2, 1) := by decide +kernel
theorem dL_law_678 : decode cL_law 678 = .ok (.invokevirtual 89, 3) := by decide +kernel
theorem dL_law_681 : decode cL_law 681 = .ok (.iload 5, 2) := by decide +kernel
theorem dL_law_683 : decode cL_law 683 = .ok (.if_icmp .eq 5, 3) := by decide +kernel
theorem dL_law_686 : decode cL_law 686 = .ok (.iconst 0, 1) := by decide +kernel
theorem dL_law_687 : decode cL_law 687 = .ok (.ireturn, 1) := by decide +kernel
theorem dL_law_688 : decode cL_law 688 = .ok (.iload 5, 2) := by decide +kernel
theorem dL_law_690 : decode cL_law 690 = .ok (.ifCond .ne 15, 3) := by decide +kernel
theorem dL_law_693 : decode cL_law 693 = .ok (.aload_n 3, 1) := by decide +kernel
theorem dL_law_694 : decode cL_law 694 = .ok (.iconst 0, 1) := by decide +kernel
theorem dL_law_695 : decode cL_law 695 = .ok (.laload, 1) := by decide +kernel
theorem dL_law_696 : decode cL_law 696 = .ok (.iload 6, 2) := by decide +kernel
theorem dL_law_698 : decode cL_law 698 = .ok (.i2l, 1) := by decide +kernel
theorem dL_law_699 : decode cL_law 699 = .ok (.lcmp, 1) := by decide +kernel
theorem dL_law_700 : decode cL_law 700 = .ok (.ifCond .eq 5, 3) := by decide +kernel
theorem dL_law_703 : decode cL_law 703 = .ok (.iconst 0, 1) := by decide +kernel
theorem dL_law_704 : decode cL_law 704 = .ok (.ireturn, 1) := by decide +kernel
theorem dL_law_705 : decode cL_law 705 = .ok (.goto 821, 3) := by decide +kernel
theorem dL_law_708 : decode cL_law 708 = .ok (.aload_n 1, 1) := by decide +kernel
theorem dL_law_709 : decode cL_law 709 = .ok (.aload_n 0, 1) := by decide +kernel
theorem dL_law_710 : decode cL_law 710 = .ok (.iload 4, 2) := by decide +kernel
theorem dL_law_712 : decode cL_law 712 = .ok (.iconst 1, 1) := by decide +kernel
theorem dL_law_713 : decode cL_law 713 = .ok (.iadd, 1) := by decide +kernel
theorem dL_law_714 : decode cL_law 714 = .ok (.iaload, 1) := by decide +kernel
theorem dL_law_715 : decode cL_law 715 = .ok (.aload_n 3, 1) := by decide +kernel
theorem dL_law_716 : decode cL_law 716 = .ok (.invokestatic 115, 3) := by decide +kernel
theorem dL_law_719 : decode cL_law 719 = .ok (.istore 5, 2) := by decide +kernel
theorem dL_law_721 : decode cL_law 721 = .ok (.aload_n 2, 1) := by decide +kernel
theorem dL_law_722 : decode cL_law 722 = .ok (.aload_n 0, 1) := by decide +kernel
theorem dL_law_723 : decode cL_law 723 = .ok (.iload 4, 2) := by decide +kernel
theorem dL_law_725 : decode cL_law 725 = .ok (.iconst 1, 1) := by decide +kernel
theorem dL_law_726 : decode cL_law 726 = .ok (.iadd, 1) := by decide +kernel
theorem dL_law_727 : decode cL_law 727 = .ok (.iaload, 1) := by decide +kernel
theorem dL_law_728 : decode cL_law 728 = .ok (.invokevirtual 117, 3) := by decide +kernel
theorem dL_law_731 : decode cL_law 731 = .ok (.istore 6, 2) := by decide +kernel
theorem dL_law_733 : decode cL_law 733 = .ok (.aload_n 2, 1) := by decide +kernel
theorem dL_law_734 : decode cL_law 734 = .ok (.invokevirtual 89, 3) := by decide +kernel
theorem dL_law_737 : decode cL_law 737 = .ok (.iload 5, 2) := by decide +kernel
theorem dL_law_739 : decode cL_law 739 = .ok (.if_icmp .eq 5, 3) := by decide +kernel
theorem dL_law_742 : decode cL_law 742 = .ok (.iconst 0, 1) := by decide +kernel
theorem dL_law_743 : decode cL_law 743 = .ok (.ireturn, 1) := by decide +kernel
theorem dL_law_744 : decode cL_law 744 = .ok (.iload 5, 2) := by decide +kernel
theorem dL_law_746 : decode cL_law 746 = .ok (.ifCond .ne 15, 3) := by decide +kernel
theorem dL_law_749 : decode cL_law 749 = .ok (.aload_n 3, 1) := by decide +kernel
theorem dL_law_750 : decode cL_law 750 = .ok (.iconst 0, 1) := by decide +kernel
theorem dL_law_751 : decode cL_law 751 = .ok (.laload, 1) := by decide +kernel
theorem dL_law_752 : decode cL_law 752 = .ok (.iload 6, 2) := by decide +kernel
theorem dL_law_754 : decode cL_law 754 = .ok (.i2l, 1) := by decide +kernel
theorem dL_law_755 : decode cL_law 755 = .ok (.lcmp, 1) := by decide +kernel
theorem dL_law_756 : decode cL_law 756 = .ok (.ifCond .eq 5, 3) := by decide +kernel
theorem dL_law_759 : decode cL_law 759 = .ok (.iconst 0, 1) := by decide +kernel
theorem dL_law_760 : decode cL_law 760 = .ok (.ireturn, 1) := by decide +kernel
theorem dL_law_761 : decode cL_law 761 = .ok (.goto 765, 3) := by decide +kernel
theorem dL_law_764 : decode cL_law 764 = .ok (.aload_n 1, 1) := by decide +kernel
theorem dL_law_765 : decode cL_law 765 = .ok (.invokevirtual 118, 3) := by decide +kernel
theorem dL_law_768 : decode cL_law 768 = .ok (.aload_n 2, 1) := by decide +kernel
theorem dL_law_769 : decode cL_law 769 = .ok (.invokevirtual 121, 3) := by decide +kernel
theorem dL_law_772 : decode cL_law 772 = .ok (.if_icmp .eq 754, 3) := by decide +kernel
theorem dL_law_775 : decode cL_law 775 = .ok (.iconst 0, 1) := by decide +kernel
theorem dL_law_776 : decode cL_law 776 = .ok (.ireturn, 1) := by decide +kernel
theorem dL_law_777 : decode cL_law 777 = .ok (.aload_n 1, 1) := by decide +kernel
theorem dL_law_778 : decode cL_law 778 = .ok (.invokevirtual 122, 3) := by decide +kernel
theorem dL_law_781 : decode cL_law 781 = .ok (.aload_n 2, 1) := by decide +kernel
theorem dL_law_782 : decode cL_law 782 = .ok (.invokevirtual 125, 3) := by decide +kernel
theorem dL_law_785 : decode cL_law 785 = .ok (.if_icmp .eq 741, 3) := by decide +kernel
theorem dL_law_788 : decode cL_law 788 = .ok (.iconst 0, 1) := by decide +kernel
theorem dL_law_789 : decode cL_law 789 = .ok (.ireturn, 1) := by decide +kernel
theorem dL_law_790 : decode cL_law 790 = .ok (.aload_n 1, 1) := by decide +kernel
theorem dL_law_791 : decode cL_law 791 = .ok (.aload_n 3, 1) := by decide +kernel
theorem dL_law_792 : decode cL_law 792 = .ok (.invokestatic 126, 3) := by decide +kernel
theorem dL_law_795 : decode cL_law 795 = .ok (.istore 5, 2) := by decide +kernel
theorem dL_law_797 : decode cL_law 797 = .ok (.aload_n 2, 1) := by decide +kernel
theorem dL_law_798 : decode cL_law 798 = .ok (.invokevirtual 129, 3) := by decide +kernel
theorem dL_law_801 : decode cL_law 801 = .ok (.istore 6, 2) := by decide +kernel
theorem dL_law_803 : decode cL_law 803 = .ok (.aload_n 2, 1) := by decide +kernel
theorem dL_law_804 : decode cL_law 804 = .ok (.invokevirtual 89, 3) := by decide +kernel
theorem dL_law_807 : decode cL_law 807 = .ok (.iload 5, 2) := by decide +kernel
theorem dL_law_809 : decode cL_law 809 = .ok (.if_icmp .eq 5, 3) := by decide +kernel
theorem dL_law_812 : decode cL_law 812 = .ok (.iconst 0, 1) := by decide +kernel
theorem dL_law_813 : decode cL_law 813 = .ok (.ireturn, 1) := by decide +kernel
theorem dL_law_814 : decode cL_law 814 = .ok (.iload 5, 2) := by decide +kernel
theorem dL_law_816 : decode cL_law 816 = .ok (.ifCond .ne 15, 3) := by decide +kernel
theorem dL_law_819 : decode cL_law 819 = .ok (.aload_n 3, 1) := by decide +kernel
theorem dL_law_820 : decode cL_law 820 = .ok (.iconst 0, 1) := by decide +kernel
theorem dL_law_821 : decode cL_law 821 = .ok (.laload, 1) := by decide +kernel
theorem dL_law_822 : decode cL_law 822 = .ok (.iload 6, 2) := by decide +kernel
theorem dL_law_824 : decode cL_law 824 = .ok (.i2l, 1) := by decide +kernel
theorem dL_law_825 : decode cL_law 825 = .ok (.lcmp, 1) := by decide +kernel
theorem dL_law_826 : decode cL_law 826 = .ok (.ifCond .eq 5, 3) := by decide +kernel
theorem dL_law_829 : decode cL_law 829 = .ok (.iconst 0, 1) := by decide +kernel
theorem dL_law_830 : decode cL_law 830 = .ok (.ireturn, 1) := by decide +kernel
theorem dL_law_831 : decode cL_law 831 = .ok (.goto 695, 3) := by decide +kernel
theorem dL_law_834 : decode cL_law 834 = .ok (.aload_n 1, 1) := by decide +kernel
theorem dL_law_835 : decode cL_law 835 = .ok (.aload_n 3, 1) := by decide +kernel
theorem dL_law_836 : decode cL_law 836 = .ok (.invokestatic 130, 3) := by decide +kernel
theorem dL_law_839 : decode cL_law 839 = .ok (.istore 5, 2) := by decide +kernel
theorem dL_law_841 : decode cL_law 841 = .ok (.aload_n 2, 1) := by decide +kernel
theorem dL_law_842 : decode cL_law 842 = .ok (.invokevirtual 132, 3) := by decide +kernel
theorem dL_law_845 : decode cL_law 845 = .ok (.istore 6, 2) := by decide +kernel
theorem dL_law_847 : decode cL_law 847 = .ok (.aload_n 2, 1) := by decide +kernel
theorem dL_law_848 : decode cL_law 848 = .ok (.invokevirtual 89, 3) := by decide +kernel
theorem dL_law_851 : decode cL_law 851 = .ok (.iload 5, 2) := by decide +kernel
theorem dL_law_853 : decode cL_law 853 = .ok (.if_icmp .eq 5, 3) := by decide +kernel
theorem dL_law_856 : decode cL_law 856 = .ok (.iconst 0, 1) := by decide +kernel
theorem dL_law_857 : decode cL_law 857 = .ok (.ireturn, 1) := by decide +kernel
theorem dL_law_858 : decode cL_law 858 = .ok (.iload 5, 2) := by decide +kernel
theorem dL_law_860 : decode cL_law 860 = .ok (.ifCond .ne 15, 3) := by decide +kernel
theorem dL_law_863 : decode cL_law 863 = .ok (.aload_n 3, 1) := by decide +kernel
theorem dL_law_864 : decode cL_law 864 = .ok (.iconst 0, 1) := by decide +kernel
theorem dL_law_865 : decode cL_law 865 = .ok (.laload, 1) := by decide +kernel
theorem dL_law_866 : decode cL_law 866 = .ok (.iload 6, 2) := by decide +kernel
theorem dL_law_868 : decode cL_law 868 = .ok (.i2l, 1) := by decide +kernel
theorem dL_law_869 : decode cL_law 869 = .ok (.lcmp, 1) := by decide +kernel
theorem dL_law_870 : decode cL_law 870 = .ok (.ifCond .eq 5, 3) := by decide +kernel
theorem dL_law_873 : decode cL_law 873 = .ok (.iconst 0, 1) := by decide +kernel
theorem dL_law_874 : decode cL_law 874 = .ok (.ireturn, 1) := by decide +kernel
theorem dL_law_875 : decode cL_law 875 = .ok (.goto 651, 3) := by decide +kernel
theorem dL_law_878 : decode cL_law 878 = .ok (.aload_n 1, 1) := by decide +kernel
theorem dL_law_879 : decode cL_law 879 = .ok (.aload_n 0, 1) := by decide +kernel
theorem dL_law_880 : decode cL_law 880 = .ok (.iload 4, 2) := by decide +kernel
theorem dL_law_882 : decode cL_law 882 = .ok (.iconst 1, 1) := by decide +kernel
theorem dL_law_883 : decode cL_law 883 = .ok (.iadd, 1) := by decide +kernel
theorem dL_law_884 : decode cL_law 884 = .ok (.iaload, 1) := by decide +kernel
theorem dL_law_885 : decode cL_law 885 = .ok (.aload_n 0, 1) := by decide +kernel
theorem dL_law_886 : decode cL_law 886 = .ok (.iload 4, 2) := by decide +kernel
theorem dL_law_888 : decode cL_law 888 = .ok (.iconst 2, 1) := by decide +kernel
theorem dL_law_889 : decode cL_law 889 = .ok (.iadd, 1) := by decide +kernel
theorem dL_law_890 : decode cL_law 890 = .ok (.iaload, 1) := by decide +kernel
theorem dL_law_891 : decode cL_law 891 = .ok (.aload_n 3, 1) := by decide +kernel
theorem dL_law_892 : decode cL_law 892 = .ok (.invokestatic 133, 3) := by decide +kernel
theorem dL_law_895 : decode cL_law 895 = .ok (.istore 5, 2) := by decide +kernel
theorem dL_law_897 : decode cL_law 897 = .ok (.aload_n 2, 1) := by decide +kernel
theorem dL_law_898 : decode cL_law 898 = .ok (.aload_n 0, 1) := by decide +kernel
theorem dL_law_899 : decode cL_law 899 = .ok (.iload 4, 2) := by decide +kernel
theorem dL_law_901 : decode cL_law 901 = .ok (.iconst 1, 1) := by decide +kernel
theorem dL_law_902 : decode cL_law 902 = .ok (.iadd, 1) := by decide +kernel
theorem dL_law_903 : decode cL_law 903 = .ok (.iaload, 1) := by decide +kernel
theorem dL_law_904 : decode cL_law 904 = .ok (.aload_n 0, 1) := by decide +kernel
theorem dL_law_905 : decode cL_law 905 = .ok (.iload 4, 2) := by decide +kernel
theorem dL_law_907 : decode cL_law 907 = .ok (.iconst 2, 1) := by decide +kernel
theorem dL_law_908 : decode cL_law 908 = .ok (.iadd, 1) := by decide +kernel
theorem dL_law_909 : decode cL_law 909 = .ok (.iaload, 1) := by decide +kernel
theorem dL_law_910 : decode cL_law 910 = .ok (.invokevirtual 135, 3) := by decide +kernel
theorem dL_law_913 : decode cL_law 913 = .ok (.istore 6, 2) := by decide +kernel
theorem dL_law_915 : decode cL_law 915 = .ok (.aload_n 2, 1) := by decide +kernel
theorem dL_law_916 : decode cL_law 916 = .ok (.invokevirtual 89, 3) := by decide +kernel
theorem dL_law_919 : decode cL_law 919 = .ok (.iload 5, 2) := by decide +kernel
theorem dL_law_921 : decode cL_law 921 = .ok (.if_icmp .eq 5, 3) := by decide +kernel
theorem dL_law_924 : decode cL_law 924 = .ok (.iconst 0, 1) := by decide +kernel
theorem dL_law_925 : decode cL_law 925 = .ok (.ireturn, 1) := by decide +kernel
theorem dL_law_926 : decode cL_law 926 = .ok (.iload 5, 2) := by decide +kernel
theorem dL_law_928 : decode cL_law 928 = .ok (.ifCond .ne 15, 3) := by decide +kernel
theorem dL_law_931 : decode cL_law 931 = .ok (.aload_n 3, 1) := by decide +kernel
theorem dL_law_932 : decode cL_law 932 = .ok (.iconst 0, 1) := by decide +kernel
theorem dL_law_933 : decode cL_law 933 = .ok (.laload, 1) := by decide +kernel
theorem dL_law_934 : decode cL_law 934 = .ok (.iload 6, 2) := by decide +kernel
theorem dL_law_936 : decode cL_law 936 = .ok (.i2l, 1) := by decide +kernel
theorem dL_law_937 : decode cL_law 937 = .ok (.lcmp, 1) := by decide +kernel
theorem dL_law_938 : decode cL_law 938 = .ok (.ifCond .eq 5, 3) := by decide +kernel
theorem dL_law_941 : decode cL_law 941 = .ok (.iconst 0, 1) := by decide +kernel
theorem dL_law_942 : decode cL_law 942 = .ok (.ireturn, 1) := by decide +kernel
theorem dL_law_943 : decode cL_law 943 = .ok (.goto 583, 3) := by decide +kernel
theorem dL_law_946 : decode cL_law 946 = .ok (.aload_n 1, 1) := by decide +kernel
theorem dL_law_947 : decode cL_law 947 = .ok (.aload_n 0, 1) := by decide +kernel
theorem dL_law_948 : decode cL_law 948 = .ok (.iload 4, 2) := by decide +kernel
theorem dL_law_950 : decode cL_law 950 = .ok (.iconst 1, 1) := by decide +kernel
theorem dL_law_951 : decode cL_law 951 = .ok (.iadd, 1) := by decide +kernel
theorem dL_law_952 : decode cL_law 952 = .ok (.iaload, 1) := by decide +kernel
theorem dL_law_953 : decode cL_law 953 = .ok (.aload_n 0, 1) := by decide +kernel
theorem dL_law_954 : decode cL_law 954 = .ok (.iload 4, 2) := by decide +kernel
theorem dL_law_956 : decode cL_law 956 = .ok (.iconst 2, 1) := by decide +kernel
theorem dL_law_957 : decode cL_law 957 = .ok (.iadd, 1) := by decide +kernel
theorem dL_law_958 : decode cL_law 958 = .ok (.iaload, 1) := by decide +kernel
theorem dL_law_959 : decode cL_law 959 = .ok (.aload_n 3, 1) := by decide +kernel
theorem dL_law_960 : decode cL_law 960 = .ok (.invokestatic 136, 3) := by decide +kernel
theorem dL_law_963 : decode cL_law 963 = .ok (.istore 5, 2) := by decide +kernel
theorem dL_law_965 : decode cL_law 965 = .ok (.aload_n 2, 1) := by decide +kernel
theorem dL_law_966 : decode cL_law 966 = .ok (.aload_n 0, 1) := by decide +kernel
theorem dL_law_967 : decode cL_law 967 = .ok (.iload 4, 2) := by decide +kernel
theorem dL_law_969 : decode cL_law 969 = .ok (.iconst 1, 1) := by decide +kernel
theorem dL_law_970 : decode cL_law 970 = .ok (.iadd, 1) := by decide +kernel
theorem dL_law_971 : decode cL_law 971 = .ok (.iaload, 1) := by decide +kernel
theorem dL_law_972 : decode cL_law 972 = .ok (.aload_n 0, 1) := by decide +kernel
theorem dL_law_973 : decode cL_law 973 = .ok (.iload 4, 2) := by decide +kernel
theorem dL_law_975 : decode cL_law 975 = .ok (.iconst 2, 1) := by decide +kernel
theorem dL_law_976 : decode cL_law 976 = .ok (.iadd, 1) := by decide +kernel
theorem dL_law_977 : decode cL_law 977 = .ok (.iaload, 1) := by decide +kernel
theorem dL_law_978 : decode cL_law 978 = .ok (.invokevirtual 138, 3) := by decide +kernel
theorem dL_law_981 : decode cL_law 981 = .ok (.lstore 6, 2) := by decide +kernel
theorem dL_law_983 : decode cL_law 983 = .ok (.aload_n 2, 1) := by decide +kernel
theorem dL_law_984 : decode cL_law 984 = .ok (.invokevirtual 89, 3) := by decide +kernel
theorem dL_law_987 : decode cL_law 987 = .ok (.iload 5, 2) := by decide +kernel
theorem dL_law_989 : decode cL_law 989 = .ok (.if_icmp .eq 5, 3) := by decide +kernel
theorem dL_law_992 : decode cL_law 992 = .ok (.iconst 0, 1) := by decide +kernel
theorem dL_law_993 : decode cL_law 993 = .ok (.ireturn, 1) := by decide +kernel
theorem dL_law_994 : decode cL_law 994 = .ok (.iload 5, 2) := by decide +kernel
theorem dL_law_996 : decode cL_law 996 = .ok (.ifCond .ne 14, 3) := by decide +kernel
theorem dL_law_999 : decode cL_law 999 = .ok (.aload_n 3, 1) := by decide +kernel
theorem dL_law_1000 : decode cL_law 1000 = .ok (.iconst 0, 1) := by decide +kernel
theorem dL_law_1001 : decode cL_law 1001 = .ok (.laload, 1) := by decide +kernel
theorem dL_law_1002 : decode cL_law 1002 = .ok (.lload 6, 2) := by decide +kernel
theorem dL_law_1004 : decode cL_law 1004 = .ok (.lcmp, 1) := by decide +kernel
theorem dL_law_1005 : decode cL_law 1005 = .ok (.ifCond .eq 5, 3) := by decide +kernel
theorem dL_law_1008 : decode cL_law 1008 = .ok (.iconst 0, 1) := by decide +kernel
theorem dL_law_1009 : decode cL_law 1009 = .ok (.ireturn, 1) := by decide +kernel
theorem dL_law_1010 : decode cL_law 1010 = .ok (.goto 516, 3) := by decide +kernel
theorem dL_law_1013 : decode cL_law 1013 = .ok (.aload_n 1, 1) := by decide +kernel
theorem dL_law_1014 : decode cL_law 1014 = .ok (.aload_n 0, 1) := by decide +kernel
theorem dL_law_1015 : decode cL_law 1015 = .ok (.iload 4, 2) := by decide +kernel
theorem dL_law_1017 : decode cL_law 1017 = .ok (.iconst 1, 1) := by decide +kernel
theorem dL_law_1018 : decode cL_law 1018 = .ok (.iadd, 1) := by decide +kernel
theorem dL_law_1019 : decode cL_law 1019 = .ok (.iaload, 1) := by decide +kernel
theorem dL_law_1020 : decode cL_law 1020 = .ok (.aload_n 0, 1) := by decide +kernel
theorem dL_law_1021 : decode cL_law 1021 = .ok (.iload 4, 2) := by decide +kernel
theorem dL_law_1023 : decode cL_law 1023 = .ok (.iconst 2, 1) := by decide +kernel
theorem dL_law_1024 : decode cL_law 1024 = .ok (.iadd, 1) := by decide +kernel
theorem dL_law_1025 : decode cL_law 1025 = .ok (.iaload, 1) := by decide +kernel
theorem dL_law_1026 : decode cL_law 1026 = .ok (.aload_n 3, 1) := by decide +kernel
theorem dL_law_1027 : decode cL_law 1027 = .ok (.invokestatic 139, 3) := by decide +kernel
theorem dL_law_1030 : decode cL_law 1030 = .ok (.istore 5, 2) := by decide +kernel
theorem dL_law_1032 : decode cL_law 1032 = .ok (.aload_n 2, 1) := by decide +kernel
theorem dL_law_1033 : decode cL_law 1033 = .ok (.aload_n 0, 1) := by decide +kernel
theorem dL_law_1034 : decode cL_law 1034 = .ok (.iload 4, 2) := by decide +kernel
theorem dL_law_1036 : decode cL_law 1036 = .ok (.iconst 1, 1) := by decide +kernel
theorem dL_law_1037 : decode cL_law 1037 = .ok (.iadd, 1) := by decide +kernel
theorem dL_law_1038 : decode cL_law 1038 = .ok (.iaload, 1) := by decide +kernel
theorem dL_law_1039 : decode cL_law 1039 = .ok (.aload_n 0, 1) := by decide +kernel
theorem dL_law_1040 : decode cL_law 1040 = .ok (.iload 4, 2) := by decide +kernel
theorem dL_law_1042 : decode cL_law 1042 = .ok (.iconst 2, 1) := by decide +kernel
theorem dL_law_1043 : decode cL_law 1043 = .ok (.iadd, 1) := by decide +kernel
theorem dL_law_1044 : decode cL_law 1044 = .ok (.iaload, 1) := by decide +kernel
theorem dL_law_1045 : decode cL_law 1045 = .ok (.invokevirtual 141, 3) := by decide +kernel
theorem dL_law_1048 : decode cL_law 1048 = .ok (.istore 6, 2) := by decide +kernel
theorem dL_law_1050 : decode cL_law 1050 = .ok (.aload_n 2, 1) := by decide +kernel
theorem dL_law_1051 : decode cL_law 1051 = .ok (.invokevirtual 89, 3) := by decide +kernel
theorem dL_law_1054 : decode cL_law 1054 = .ok (.iload 5, 2) := by decide +kernel
theorem dL_law_1056 : decode cL_law 1056 = .ok (.if_icmp .eq 5, 3) := by decide +kernel
theorem dL_law_1059 : decode cL_law 1059 = .ok (.iconst 0, 1) := by decide +kernel
theorem dL_law_1060 : decode cL_law 1060 = .ok (.ireturn, 1) := by decide +kernel
theorem dL_law_1061 : decode cL_law 1061 = .ok (.iload 5, 2) := by decide +kernel
theorem dL_law_1063 : decode cL_law 1063 = .ok (.ifCond .ne 15, 3) := by decide +kernel
theorem dL_law_1066 : decode cL_law 1066 = .ok (.aload_n 3, 1) := by decide +kernel
theorem dL_law_1067 : decode cL_law 1067 = .ok (.iconst 0, 1) := by decide +kernel
theorem dL_law_1068 : decode cL_law 1068 = .ok (.laload, 1) := by decide +kernel
theorem dL_law_1069 : decode cL_law 1069 = .ok (.iload 6, 2) := by decide +kernel
theorem dL_law_1071 : decode cL_law 1071 = .ok (.i2l, 1) := by decide +kernel
theorem dL_law_1072 : decode cL_law 1072 = .ok (.lcmp, 1) := by decide +kernel
theorem dL_law_1073 : decode cL_law 1073 = .ok (.ifCond .eq 5, 3) := by decide +kernel
theorem dL_law_1076 : decode cL_law 1076 = .ok (.iconst 0, 1) := by decide +kernel
theorem dL_law_1077 : decode cL_law 1077 = .ok (.ireturn, 1) := by decide +kernel
theorem dL_law_1078 : decode cL_law 1078 = .ok (.goto 448, 3) := by decide +kernel
theorem dL_law_1081 : decode cL_law 1081 = .ok (.aload_n 1, 1) := by decide +kernel
theorem dL_law_1082 : decode cL_law 1082 = .ok (.aload_n 0, 1) := by decide +kernel
theorem dL_law_1083 : decode cL_law 1083 = .ok (.iload 4, 2) := by decide +kernel
theorem dL_law_1085 : decode cL_law 1085 = .ok (.iconst 1, 1) := by decide +kernel
theorem dL_law_1086 : decode cL_law 1086 = .ok (.iadd, 1) := by decide +kernel
theorem dL_law_1087 : decode cL_law 1087 = .ok (.iaload, 1) := by decide +kernel
theorem dL_law_1088 : decode cL_law 1088 = .ok (.aload_n 0, 1) := by decide +kernel
theorem dL_law_1089 : decode cL_law 1089 = .ok (.iload 4, 2) := by decide +kernel
theorem dL_law_1091 : decode cL_law 1091 = .ok (.iconst 2, 1) := by decide +kernel
theorem dL_law_1092 : decode cL_law 1092 = .ok (.iadd, 1) := by decide +kernel
theorem dL_law_1093 : decode cL_law 1093 = .ok (.iaload, 1) := by decide +kernel
theorem dL_law_1094 : decode cL_law 1094 = .ok (.aload_n 0, 1) := by decide +kernel
theorem dL_law_1095 : decode cL_law 1095 = .ok (.iload 4, 2) := by decide +kernel
theorem dL_law_1097 : decode cL_law 1097 = .ok (.iconst 3, 1) := by decide +kernel
theorem dL_law_1098 : decode cL_law 1098 = .ok (.iadd, 1) := by decide +kernel
theorem dL_law_1099 : decode cL_law 1099 = .ok (.iaload, 1) := by decide +kernel
theorem dL_law_1100 : decode cL_law 1100 = .ok (.aload_n 3, 1) := by decide +kernel
theorem dL_law_1101 : decode cL_law 1101 = .ok (.invokestatic 142, 3) := by decide +kernel
theorem dL_law_1104 : decode cL_law 1104 = .ok (.istore 5, 2) := by decide +kernel
theorem dL_law_1106 : decode cL_law 1106 = .ok (.aload_n 2, 1) := by decide +kernel
theorem dL_law_1107 : decode cL_law 1107 = .ok (.aload_n 0, 1) := by decide +kernel
theorem dL_law_1108 : decode cL_law 1108 = .ok (.iload 4, 2) := by decide +kernel
theorem dL_law_1110 : decode cL_law 1110 = .ok (.iconst 1, 1) := by decide +kernel
theorem dL_law_1111 : decode cL_law 1111 = .ok (.iadd, 1) := by decide +kernel
theorem dL_law_1112 : decode cL_law 1112 = .ok (.iaload, 1) := by decide +kernel
theorem dL_law_1113 : decode cL_law 1113 = .ok (.aload_n 0, 1) := by decide +kernel
theorem dL_law_1114 : decode cL_law 1114 = .ok (.iload 4, 2) := by decide +kernel
theorem dL_law_1116 : decode cL_law 1116 = .ok (.iconst 2, 1) := by decide +kernel
theorem dL_law_1117 : decode cL_law 1117 = .ok (.iadd, 1) := by decide +kernel
theorem dL_law_1118 : decode cL_law 1118 = .ok (.iaload, 1) := by decide +kernel
theorem dL_law_1119 : decode cL_law 1119 = .ok (.aload_n 0, 1) := by decide +kernel
theorem dL_law_1120 : decode cL_law 1120 = .ok (.iload 4, 2) := by decide +kernel
theorem dL_law_1122 : decode cL_law 1122 = .ok (.iconst 3, 1) := by decide +kernel
theorem dL_law_1123 : decode cL_law 1123 = .ok (.iadd, 1) := by decide +kernel
theorem dL_law_1124 : decode cL_law 1124 = .ok (.iaload, 1) := by decide +kernel
theorem dL_law_1125 : decode cL_law 1125 = .ok (.invokevirtual 144, 3) := by decide +kernel
theorem dL_law_1128 : decode cL_law 1128 = .ok (.istore 6, 2) := by decide +kernel
theorem dL_law_1130 : decode cL_law 1130 = .ok (.aload_n 2, 1) := by decide +kernel
theorem dL_law_1131 : decode cL_law 1131 = .ok (.invokevirtual 89, 3) := by decide +kernel
theorem dL_law_1134 : decode cL_law 1134 = .ok (.iload 5, 2) := by decide +kernel
theorem dL_law_1136 : decode cL_law 1136 = .ok (.if_icmp .eq 5, 3) := by decide +kernel
theorem dL_law_1139 : decode cL_law 1139 = .ok (.iconst 0, 1) := by decide +kernel
theorem dL_law_1140 : decode cL_law 1140 = .ok (.ireturn, 1) := by decide +kernel
theorem dL_law_1141 : decode cL_law 1141 = .ok (.iload 5, 2) := by decide +kernel
theorem dL_law_1143 : decode cL_law 1143 = .ok (.ifCond .ne 15, 3) := by decide +kernel
theorem dL_law_1146 : decode cL_law 1146 = .ok (.aload_n 3, 1) := by decide +kernel
theorem dL_law_1147 : decode cL_law 1147 = .ok (.iconst 0, 1) := by decide +kernel
theorem dL_law_1148 : decode cL_law 1148 = .ok (.laload, 1) := by decide +kernel
theorem dL_law_1149 : decode cL_law 1149 = .ok (.iload 6, 2) := by decide +kernel
theorem dL_law_1151 : decode cL_law 1151 = .ok (.i2l, 1) := by decide +kernel
theorem dL_law_1152 : decode cL_law 1152 = .ok (.lcmp, 1) := by decide +kernel
theorem dL_law_1153 : decode cL_law 1153 = .ok (.ifCond .eq 5, 3) := by decide +kernel
theorem dL_law_1156 : decode cL_law 1156 = .ok (.iconst 0, 1) := by decide +kernel
theorem dL_law_1157 : decode cL_law 1157 = .ok (.ireturn, 1) := by decide +kernel
theorem dL_law_1158 : decode cL_law 1158 = .ok (.goto 368, 3) := by decide +kernel
theorem dL_law_1161 : decode cL_law 1161 = .ok (.aload_n 1, 1) := by decide +kernel
theorem dL_law_1162 : decode cL_law 1162 = .ok (.aload_n 0, 1) := by decide +kernel
theorem dL_law_1163 : decode cL_law 1163 = .ok (.iload 4, 2) := by decide +kernel
theorem dL_law_1165 : decode cL_law 1165 = .ok (.iconst 1, 1) := by decide +kernel
theorem dL_law_1166 : decode cL_law 1166 = .ok (.iadd, 1) := by decide +kernel
theorem dL_law_1167 : decode cL_law 1167 = .ok (.iaload, 1) := by decide +kernel
theorem dL_law_1168 : decode cL_law 1168 = .ok (.aload_n 0, 1) := by decide +kernel
theorem dL_law_1169 : decode cL_law 1169 = .ok (.iload 4, 2) := by decide +kernel
theorem dL_law_1171 : decode cL_law 1171 = .ok (.iconst 2, 1) := by decide +kernel
theorem dL_law_1172 : decode cL_law 1172 = .ok (.iadd, 1) := by decide +kernel
theorem dL_law_1173 : decode cL_law 1173 = .ok (.iaload, 1) := by decide +kernel
theorem dL_law_1174 : decode cL_law 1174 = .ok (.aload_n 0, 1) := by decide +kernel
theorem dL_law_1175 : decode cL_law 1175 = .ok (.iload 4, 2) := by decide +kernel
theorem dL_law_1177 : decode cL_law 1177 = .ok (.iconst 3, 1) := by decide +kernel
theorem dL_law_1178 : decode cL_law 1178 = .ok (.iadd, 1) := by decide +kernel
theorem dL_law_1179 : decode cL_law 1179 = .ok (.iaload, 1) := by decide +kernel
theorem dL_law_1180 : decode cL_law 1180 = .ok (.aload_n 3, 1) := by decide +kernel
theorem dL_law_1181 : decode cL_law 1181 = .ok (.invokestatic 145, 3) := by decide +kernel
theorem dL_law_1184 : decode cL_law 1184 = .ok (.istore 5, 2) := by decide +kernel
theorem dL_law_1186 : decode cL_law 1186 = .ok (.aload_n 2, 1) := by decide +kernel
theorem dL_law_1187 : decode cL_law 1187 = .ok (.aload_n 0, 1) := by decide +kernel
theorem dL_law_1188 : decode cL_law 1188 = .ok (.iload 4, 2) := by decide +kernel
theorem dL_law_1190 : decode cL_law 1190 = .ok (.iconst 1, 1) := by decide +kernel
theorem dL_law_1191 : decode cL_law 1191 = .ok (.iadd, 1) := by decide +kernel
theorem dL_law_1192 : decode cL_law 1192 = .ok (.iaload, 1) := by decide +kernel
theorem dL_law_1193 : decode cL_law 1193 = .ok (.aload_n 0, 1) := by decide +kernel
theorem dL_law_1194 : decode cL_law 1194 = .ok (.iload 4, 2) := by decide +kernel
theorem dL_law_1196 : decode cL_law 1196 = .ok (.iconst 2, 1) := by decide +kernel
theorem dL_law_1197 : decode cL_law 1197 = .ok (.iadd, 1) := by decide +kernel
theorem dL_law_1198 : decode cL_law 1198 = .ok (.iaload, 1) := by decide +kernel
theorem dL_law_1199 : decode cL_law 1199 = .ok (.aload_n 0, 1) := by decide +kernel
theorem dL_law_1200 : decode cL_law 1200 = .ok (.iload 4, 2) := by decide +kernel
theorem dL_law_1202 : decode cL_law 1202 = .ok (.iconst 3, 1) := by decide +kernel
theorem dL_law_1203 : decode cL_law 1203 = .ok (.iadd, 1) := by decide +kernel
theorem dL_law_1204 : decode cL_law 1204 = .ok (.iaload, 1) := by decide +kernel
theorem dL_law_1205 : decode cL_law 1205 = .ok (.invokevirtual 147, 3) := by decide +kernel
theorem dL_law_1208 : decode cL_law 1208 = .ok (.lstore 6, 2) := by decide +kernel
theorem dL_law_1210 : decode cL_law 1210 = .ok (.aload_n 2, 1) := by decide +kernel
theorem dL_law_1211 : decode cL_law 1211 = .ok (.invokevirtual 89, 3) := by decide +kernel
theorem dL_law_1214 : decode cL_law 1214 = .ok (.iload 5, 2) := by decide +kernel
theorem dL_law_1216 : decode cL_law 1216 = .ok (.if_icmp .eq 5, 3) := by decide +kernel
theorem dL_law_1219 : decode cL_law 1219 = .ok (.iconst 0, 1) := by decide +kernel
theorem dL_law_1220 : decode cL_law 1220 = .ok (.ireturn, 1) := by decide +kernel
theorem dL_law_1221 : decode cL_law 1221 = .ok (.iload 5, 2) := by decide +kernel
theorem dL_law_1223 : decode cL_law 1223 = .ok (.ifCond .ne 14, 3) := by decide +kernel
theorem dL_law_1226 : decode cL_law 1226 = .ok (.aload_n 3, 1) := by decide +kernel
theorem dL_law_1227 : decode cL_law 1227 = .ok (.iconst 0, 1) := by decide +kernel
theorem dL_law_1228 : decode cL_law 1228 = .ok (.laload, 1) := by decide +kernel
theorem dL_law_1229 : decode cL_law 1229 = .ok (.lload 6, 2) := by decide +kernel
theorem dL_law_1231 : decode cL_law 1231 = .ok (.lcmp, 1) := by decide +kernel
theorem dL_law_1232 : decode cL_law 1232 = .ok (.ifCond .eq 5, 3) := by decide +kernel
theorem dL_law_1235 : decode cL_law 1235 = .ok (.iconst 0, 1) := by decide +kernel
theorem dL_law_1236 : decode cL_law 1236 = .ok (.ireturn, 1) := by decide +kernel
theorem dL_law_1237 : decode cL_law 1237 = .ok (.goto 289, 3) := by decide +kernel
theorem dL_law_1240 : decode cL_law 1240 = .ok (.aload_n 1, 1) := by decide +kernel
theorem dL_law_1241 : decode cL_law 1241 = .ok (.invokevirtual 148, 3) := by decide +kernel
theorem dL_law_1244 : decode cL_law 1244 = .ok (.aload_n 2, 1) := by decide +kernel
theorem dL_law_1245 : decode cL_law 1245 = .ok (.invokevirtual 152, 3) := by decide +kernel
theorem dL_law_1248 : decode cL_law 1248 = .ok (.lcmp, 1) := by decide +kernel
theorem dL_law_1249 : decode cL_law 1249 = .ok (.ifCond .eq 277, 3) := by decide +kernel
theorem dL_law_1252 : decode cL_law 1252 = .ok (.iconst 0, 1) := by decide +kernel
theorem dL_law_1253 : decode cL_law 1253 = .ok (.ireturn, 1) := by decide +kernel
theorem dL_law_1254 : decode cL_law 1254 = .ok (.aload_n 1, 1) := by decide +kernel
theorem dL_law_1255 : decode cL_law 1255 = .ok (.aload_n 0, 1) := by decide +kernel
theorem dL_law_1256 : decode cL_law 1256 = .ok (.iload 4, 2) := by decide +kernel
theorem dL_law_1258 : decode cL_law 1258 = .ok (.iconst 1, 1) := by decide +kernel
theorem dL_law_1259 : decode cL_law 1259 = .ok (.iadd, 1) := by decide +kernel
theorem dL_law_1260 : decode cL_law 1260 = .ok (.iaload, 1) := by decide +kernel
theorem dL_law_1261 : decode cL_law 1261 = .ok (.aload_n 3, 1) := by decide +kernel
theorem dL_law_1262 : decode cL_law 1262 = .ok (.invokestatic 153, 3) := by decide +kernel
theorem dL_law_1265 : decode cL_law 1265 = .ok (.istore 5, 2) := by decide +kernel
theorem dL_law_1267 : decode cL_law 1267 = .ok (.aload_n 2, 1) := by decide +kernel
theorem dL_law_1268 : decode cL_law 1268 = .ok (.aload_n 0, 1) := by decide +kernel
theorem dL_law_1269 : decode cL_law 1269 = .ok (.iload 4, 2) := by decide +kernel
theorem dL_law_1271 : decode cL_law 1271 = .ok (.iconst 1, 1) := by decide +kernel
theorem dL_law_1272 : decode cL_law 1272 = .ok (.iadd, 1) := by decide +kernel
theorem dL_law_1273 : decode cL_law 1273 = .ok (.iaload, 1) := by decide +kernel
theorem dL_law_1274 : decode cL_law 1274 = .ok (.invokevirtual 155, 3) := by decide +kernel
theorem dL_law_1277 : decode cL_law 1277 = .ok (.istore 6, 2) := by decide +kernel
theorem dL_law_1279 : decode cL_law 1279 = .ok (.aload_n 2, 1) := by decide +kernel
theorem dL_law_1280 : decode cL_law 1280 = .ok (.invokevirtual 89, 3) := by decide +kernel
theorem dL_law_1283 : decode cL_law 1283 = .ok (.iload 5, 2) := by decide +kernel
theorem dL_law_1285 : decode cL_law 1285 = .ok (.if_icmp .eq 5, 3) := by decide +kernel
theorem dL_law_1288 : decode cL_law 1288 = .ok (.iconst 0, 1) := by decide +kernel
theorem dL_law_1289 : decode cL_law 1289 = .ok (.ireturn, 1) := by decide +kernel
theorem dL_law_1290 : decode cL_law 1290 = .ok (.iload 5, 2) := by decide +kernel
theorem dL_law_1292 : decode cL_law 1292 = .ok (.ifCond .ne 15, 3) := by decide +kernel
theorem dL_law_1295 : decode cL_law 1295 = .ok (.aload_n 3, 1) := by decide +kernel
theorem dL_law_1296 : decode cL_law 1296 = .ok (.iconst 0, 1) := by decide +kernel
theorem dL_law_1297 : decode cL_law 1297 = .ok (.laload, 1) := by decide +kernel
theorem dL_law_1298 : decode cL_law 1298 = .ok (.iload 6, 2) := by decide +kernel
theorem dL_law_1300 : decode cL_law 1300 = .ok (.i2l, 1) := by decide +kernel
theorem dL_law_1301 : decode cL_law 1301 = .ok (.lcmp, 1) := by decide +kernel
theorem dL_law_1302 : decode cL_law 1302 = .ok (.ifCond .eq 5, 3) := by decide +kernel
theorem dL_law_1305 : decode cL_law 1305 = .ok (.iconst 0, 1) := by decide +kernel
theorem dL_law_1306 : decode cL_law 1306 = .ok (.ireturn, 1) := by decide +kernel
theorem dL_law_1307 : decode cL_law 1307 = .ok (.goto 219, 3) := by decide +kernel
theorem dL_law_1310 : decode cL_law 1310 = .ok (.aload_n 1, 1) := by decide +kernel
theorem dL_law_1311 : decode cL_law 1311 = .ok (.aload_n 0, 1) := by decide +kernel
theorem dL_law_1312 : decode cL_law 1312 = .ok (.iload 4, 2) := by decide +kernel
theorem dL_law_1314 : decode cL_law 1314 = .ok (.iconst 1, 1) := by decide +kernel
theorem dL_law_1315 : decode cL_law 1315 = .ok (.iadd, 1) := by decide +kernel
theorem dL_law_1316 : decode cL_law 1316 = .ok (.iaload, 1) := by decide +kernel
theorem dL_law_1317 : decode cL_law 1317 = .ok (.aload_n 0, 1) := by decide +kernel
theorem dL_law_1318 : decode cL_law 1318 = .ok (.iload 4, 2) := by decide +kernel
theorem dL_law_1320 : decode cL_law 1320 = .ok (.iconst 2, 1) := by decide +kernel
theorem dL_law_1321 : decode cL_law 1321 = .ok (.iadd, 1) := by decide +kernel
theorem dL_law_1322 : decode cL_law 1322 = .ok (.iaload, 1) := by decide +kernel
theorem dL_law_1323 : decode cL_law 1323 = .ok (.aload_n 0, 1) := by decide +kernel
theorem dL_law_1324 : decode cL_law 1324 = .ok (.iload 4, 2) := by decide +kernel
theorem dL_law_1326 : decode cL_law 1326 = .ok (.iconst 3, 1) := by decide +kernel
theorem dL_law_1327 : decode cL_law 1327 = .ok (.iadd, 1) := by decide +kernel
theorem dL_law_1328 : decode cL_law 1328 = .ok (.iaload, 1) := by decide +kernel
theorem dL_law_1329 : decode cL_law 1329 = .ok (.aload_n 0, 1) := by decide +kernel
theorem dL_law_1330 : decode cL_law 1330 = .ok (.iload 4, 2) := by decide +kernel
theorem dL_law_1332 : decode cL_law 1332 = .ok (.iconst 4, 1) := by decide +kernel
theorem dL_law_1333 : decode cL_law 1333 = .ok (.iadd, 1) := by decide +kernel
theorem dL_law_1334 : decode cL_law 1334 = .ok (.iaload, 1) := by decide +kernel
theorem dL_law_1335 : decode cL_law 1335 = .ok (.aload_n 3, 1) := by decide +kernel
theorem dL_law_1336 : decode cL_law 1336 = .ok (.invokestatic 156, 3) := by decide +kernel
theorem dL_law_1339 : decode cL_law 1339 = .ok (.istore 5, 2) := by decide +kernel
theorem dL_law_1341 : decode cL_law 1341 = .ok (.aload_n 2, 1) := by decide +kernel
theorem dL_law_1342 : decode cL_law 1342 = .ok (.aload_n 0, 1) := by decide +kernel
theorem dL_law_1343 : decode cL_law 1343 = .ok (.iload 4, 2) := by decide +kernel
theorem dL_law_1345 : decode cL_law 1345 = .ok (.iconst 1, 1) := by decide +kernel
theorem dL_law_1346 : decode cL_law 1346 = .ok (.iadd, 1) := by decide +kernel
theorem dL_law_1347 : decode cL_law 1347 = .ok (.iaload, 1) := by decide +kernel
theorem dL_law_1348 : decode cL_law 1348 = .ok (.aload_n 0, 1) := by decide +kernel
theorem dL_law_1349 : decode cL_law 1349 = .ok (.iload 4, 2) := by decide +kernel
theorem dL_law_1351 : decode cL_law 1351 = .ok (.iconst 2, 1) := by decide +kernel
theorem dL_law_1352 : decode cL_law 1352 = .ok (.iadd, 1) := by decide +kernel
theorem dL_law_1353 : decode cL_law 1353 = .ok (.iaload, 1) := by decide +kernel
theorem dL_law_1354 : decode cL_law 1354 = .ok (.aload_n 0, 1) := by decide +kernel
theorem dL_law_1355 : decode cL_law 1355 = .ok (.iload 4, 2) := by decide +kernel
theorem dL_law_1357 : decode cL_law 1357 = .ok (.iconst 3, 1) := by decide +kernel
theorem dL_law_1358 : decode cL_law 1358 = .ok (.iadd, 1) := by decide +kernel
theorem dL_law_1359 : decode cL_law 1359 = .ok (.iaload, 1) := by decide +kernel
theorem dL_law_1360 : decode cL_law 1360 = .ok (.aload_n 0, 1) := by decide +kernel
theorem dL_law_1361 : decode cL_law 1361 = .ok (.iload 4, 2) := by decide +kernel
theorem dL_law_1363 : decode cL_law 1363 = .ok (.iconst 4, 1) := by decide +kernel
theorem dL_law_1364 : decode cL_law 1364 = .ok (.iadd, 1) := by decide +kernel
theorem dL_law_1365 : decode cL_law 1365 = .ok (.iaload, 1) := by decide +kernel
theorem dL_law_1366 : decode cL_law 1366 = .ok (.invokevirtual 159, 3) := by decide +kernel
theorem dL_law_1369 : decode cL_law 1369 = .ok (.istore 6, 2) := by decide +kernel
theorem dL_law_1371 : decode cL_law 1371 = .ok (.aload_n 2, 1) := by decide +kernel
theorem dL_law_1372 : decode cL_law 1372 = .ok (.invokevirtual 89, 3) := by decide +kernel
theorem dL_law_1375 : decode cL_law 1375 = .ok (.iload 5, 2) := by decide +kernel
theorem dL_law_1377 : decode cL_law 1377 = .ok (.if_icmp .eq 5, 3) := by decide +kernel
theorem dL_law_1380 : decode cL_law 1380 = .ok (.iconst 0, 1) := by decide +kernel
theorem dL_law_1381 : decode cL_law 1381 = .ok (.ireturn, 1) := by decide +kernel
theorem dL_law_1382 : decode cL_law 1382 = .ok (.iload 5, 2) := by decide +kernel
theorem dL_law_1384 : decode cL_law 1384 = .ok (.ifCond .ne 15, 3) := by decide +kernel
theorem dL_law_1387 : decode cL_law 1387 = .ok (.aload_n 3, 1) := by decide +kernel
theorem dL_law_1388 : decode cL_law 1388 = .ok (.iconst 0, 1) := by decide +kernel
theorem dL_law_1389 : decode cL_law 1389 = .ok (.laload, 1) := by decide +kernel
theorem dL_law_1390 : decode cL_law 1390 = .ok (.iload 6, 2) := by decide +kernel
theorem dL_law_1392 : decode cL_law 1392 = .ok (.i2l, 1) := by decide +kernel
theorem dL_law_1393 : decode cL_law 1393 = .ok (.lcmp, 1) := by decide +kernel
theorem dL_law_1394 : decode cL_law 1394 = .ok (.ifCond .eq 5, 3) := by decide +kernel
theorem dL_law_1397 : decode cL_law 1397 = .ok (.iconst 0, 1) := by decide +kernel
theorem dL_law_1398 : decode cL_law 1398 = .ok (.ireturn, 1) := by decide +kernel
theorem dL_law_1399 : decode cL_law 1399 = .ok (.goto 127, 3) := by decide +kernel
theorem dL_law_1402 : decode cL_law 1402 = .ok (.aload_n 1, 1) := by decide +kernel
theorem dL_law_1403 : decode cL_law 1403 = .ok (.aload_n 0, 1) := by decide +kernel
theorem dL_law_1404 : decode cL_law 1404 = .ok (.iload 4, 2) := by decide +kernel
theorem dL_law_1406 : decode cL_law 1406 = .ok (.iconst 1, 1) := by decide +kernel
theorem dL_law_1407 : decode cL_law 1407 = .ok (.iadd, 1) := by decide +kernel
theorem dL_law_1408 : decode cL_law 1408 = .ok (.iaload, 1) := by decide +kernel
theorem dL_law_1409 : decode cL_law 1409 = .ok (.aload_n 3, 1) := by decide +kernel
theorem dL_law_1410 : decode cL_law 1410 = .ok (.invokestatic 160, 3) := by decide +kernel
theorem dL_law_1413 : decode cL_law 1413 = .ok (.istore 5, 2) := by decide +kernel
theorem dL_law_1415 : decode cL_law 1415 = .ok (.aload_n 2, 1) := by decide +kernel
theorem dL_law_1416 : decode cL_law 1416 = .ok (.aload_n 0, 1) := by decide +kernel
theorem dL_law_1417 : decode cL_law 1417 = .ok (.iload 4, 2) := by decide +kernel
theorem dL_law_1419 : decode cL_law 1419 = .ok (.iconst 1, 1) := by decide +kernel
theorem dL_law_1420 : decode cL_law 1420 = .ok (.iadd, 1) := by decide +kernel
theorem dL_law_1421 : decode cL_law 1421 = .ok (.iaload, 1) := by decide +kernel
theorem dL_law_1422 : decode cL_law 1422 = .ok (.invokevirtual 162, 3) := by decide +kernel
theorem dL_law_1425 : decode cL_law 1425 = .ok (.istore 6, 2) := by decide +kernel
theorem dL_law_1427 : decode cL_law 1427 = .ok (.aload_n 2, 1) := by decide +kernel
theorem dL_law_1428 : decode cL_law 1428 = .ok (.invokevirtual 89, 3) := by decide +kernel
theorem dL_law_1431 : decode cL_law 1431 = .ok (.iload 5, 2) := by decide +kernel
theorem dL_law_1433 : decode cL_law 1433 = .ok (.if_icmp .eq 5, 3) := by decide +kernel
theorem dL_law_1436 : decode cL_law 1436 = .ok (.iconst 0, 1) := by decide +kernel
theorem dL_law_1437 : decode cL_law 1437 = .ok (.ireturn, 1) := by decide +kernel
theorem dL_law_1438 : decode cL_law 1438 = .ok (.iload 5, 2) := by decide +kernel
theorem dL_law_1440 : decode cL_law 1440 = .ok (.ifCond .ne 15, 3) := by decide +kernel
theorem dL_law_1443 : decode cL_law 1443 = .ok (.aload_n 3, 1) := by decide +kernel
theorem dL_law_1444 : decode cL_law 1444 = .ok (.iconst 0, 1) := by decide +kernel
theorem dL_law_1445 : decode cL_law 1445 = .ok (.laload, 1) := by decide +kernel
theorem dL_law_1446 : decode cL_law 1446 = .ok (.iload 6, 2) := by decide +kernel
theorem dL_law_1448 : decode cL_law 1448 = .ok (.i2l, 1) := by decide +kernel
theorem dL_law_1449 : decode cL_law 1449 = .ok (.lcmp, 1) := by decide +kernel
theorem dL_law_1450 : decode cL_law 1450 = .ok (.ifCond .eq 5, 3) := by decide +kernel
theorem dL_law_1453 : decode cL_law 1453 = .ok (.iconst 0, 1) := by decide +kernel
theorem dL_law_1454 : decode cL_law 1454 = .ok (.ireturn, 1) := by decide +kernel
theorem dL_law_1455 : decode cL_law 1455 = .ok (.goto 71, 3) := by decide +kernel
theorem dL_law_1458 : decode cL_law 1458 = .ok (.aload_n 1, 1) := by decide +kernel
theorem dL_law_1459 : decode cL_law 1459 = .ok (.invokevirtual 163, 3) := by decide +kernel
theorem dL_law_1462 : decode cL_law 1462 = .ok (.aload_n 2, 1) := by decide +kernel
theorem dL_law_1463 : decode cL_law 1463 = .ok (.invokevirtual 166, 3) := by decide +kernel
theorem dL_law_1466 : decode cL_law 1466 = .ok (.if_icmp .eq 60, 3) := by decide +kernel
theorem dL_law_1469 : decode cL_law 1469 = .ok (.iconst 0, 1) := by decide +kernel
theorem dL_law_1470 : decode cL_law 1470 = .ok (.ireturn, 1) := by decide +kernel
theorem dL_law_1471 : decode cL_law 1471 = .ok (.aload_n 1, 1) := by decide +kernel
theorem dL_law_1472 : decode cL_law 1472 = .ok (.invokevirtual 167, 3) := by decide +kernel
theorem dL_law_1475 : decode cL_law 1475 = .ok (.dstore 5, 2) := by decide +kernel
theorem dL_law_1477 : decode cL_law 1477 = .ok (.aload_n 2, 1) := by decide +kernel
theorem dL_law_1478 : decode cL_law 1478 = .ok (.invokevirtual 171, 3) := by decide +kernel
theorem dL_law_1481 : decode cL_law 1481 = .ok (.dstore 7, 2) := by decide +kernel
theorem dL_law_1483 : decode cL_law 1483 = .ok (.dload 5, 2) := by decide +kernel
theorem dL_law_1485 : decode cL_law 1485 = .ok (.dload 7, 2) := by decide +kernel
theorem dL_law_1487 : decode cL_law 1487 = .ok (.dcmp .l, 1) := by decide +kernel
theorem dL_law_1488 : decode cL_law 1488 = .ok (.ifCond .eq 21, 3) := by decide +kernel
theorem dL_law_1491 : decode cL_law 1491 = .ok (.dload 5, 2) := by decide +kernel
theorem dL_law_1493 : decode cL_law 1493 = .ok (.dload 5, 2) := by decide +kernel
theorem dL_law_1495 : decode cL_law 1495 = .ok (.dcmp .l, 1) := by decide +kernel
theorem dL_law_1496 : decode cL_law 1496 = .ok (.ifCond .eq 11, 3) := by decide +kernel
theorem dL_law_1499 : decode cL_law 1499 = .ok (.dload 7, 2) := by decide +kernel
theorem dL_law_1501 : decode cL_law 1501 = .ok (.dload 7, 2) := by decide +kernel
theorem dL_law_1503 : decode cL_law 1503 = .ok (.dcmp .l, 1) := by decide +kernel
theorem dL_law_1504 : decode cL_law 1504 = .ok (.ifCond .ne 5, 3) := by decide +kernel
theorem dL_law_1507 : decode cL_law 1507 = .ok (.iconst 0, 1) := by decide +kernel
theorem dL_law_1508 : decode cL_law 1508 = .ok (.ireturn, 1) := by decide +kernel
theorem dL_law_1509 : decode cL_law 1509 = .ok (.goto 17, 3) := by decide +kernel
theorem dL_law_1512 : decode cL_law 1512 = .ok (.aload_n 1, 1) := by decide +kernel
theorem dL_law_1513 : decode cL_law 1513 = .ok (.invokevirtual 172, 3) := by decide +kernel
theorem dL_law_1516 : decode cL_law 1516 = .ok (.aload_n 2, 1) := by decide +kernel
theorem dL_law_1517 : decode cL_law 1517 = .ok (.invokevirtual 175, 3) := by decide +kernel
theorem dL_law_1520 : decode cL_law 1520 = .ok (.lcmp, 1) := by decide +kernel
theorem dL_law_1521 : decode cL_law 1521 = .ok (.ifCond .eq 5, 3) := by decide +kernel
theorem dL_law_1524 : decode cL_law 1524 = .ok (.iconst 0, 1) := by decide +kernel
theorem dL_law_1525 : decode cL_law 1525 = .ok (.ireturn, 1) := by decide +kernel
theorem dL_law_1526 : decode cL_law 1526 = .ok (.iinc 4 5, 3) := by decide +kernel
theorem dL_law_1529 : decode cL_law 1529 = .ok (.goto (-1506), 3) := by decide +kernel
theorem dL_law_1532 : decode cL_law 1532 = .ok (.iconst 1, 1) := by decide +kernel
theorem dL_law_1533 : decode cL_law 1533 = .ok (.ireturn, 1) := by decide +kernel
abbrev vwCl : List vw_C := [(RX0, TX0, 10), (RX1, TX1, 3), (RX2, TX2, 6), (RX3, TX3, 7), (RX4, TX4, 7), (RX5, TX5, 7), (RX6, TX6, 21)]
