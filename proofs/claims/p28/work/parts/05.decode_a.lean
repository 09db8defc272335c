theorem dX0_init_0 : decode cX0_init 0 = .ok (.aload_n 0, 1) := by decide +kernel
theorem dX0_init_1 : decode cX0_init 1 = .ok (.invokespecial 3, 3) := by decide +kernel
theorem dX0_init_4 : decode cX0_init 4 = .ok (.aload_n 0, 1) := by decide +kernel
theorem dX0_init_5 : decode cX0_init 5 = .ok (.bipush 9, 2) := by decide +kernel
theorem dX0_init_7 : decode cX0_init 7 = .ok (.newarray .int, 2) := by decide +kernel
theorem dX0_init_9 : decode cX0_init 9 = .ok (.putfield 9, 3) := by decide +kernel
theorem dX0_init_12 : decode cX0_init 12 = .ok (.aload_n 0, 1) := by decide +kernel
theorem dX0_init_13 : decode cX0_init 13 = .ok (.bipush 9, 2) := by decide +kernel
theorem dX0_init_15 : decode cX0_init 15 = .ok (.newarray .int, 2) := by decide +kernel
theorem dX0_init_17 : decode cX0_init 17 = .ok (.putfield 15, 3) := by decide +kernel
theorem dX0_init_20 : decode cX0_init 20 = .ok (.aload_n 0, 1) := by decide +kernel
theorem dX0_init_21 : decode cX0_init 21 = .ok (.bipush 18, 2) := by decide +kernel
theorem dX0_init_23 : decode cX0_init 23 = .ok (.newarray .int, 2) := by decide +kernel
theorem dX0_init_25 : decode cX0_init 25 = .ok (.putfield 18, 3) := by decide +kernel
theorem dX0_init_28 : decode cX0_init 28 = .ok (.aload_n 0, 1) := by decide +kernel
theorem dX0_init_29 : decode cX0_init 29 = .ok (.bipush 18, 2) := by decide +kernel
theorem dX0_init_31 : decode cX0_init 31 = .ok (.newarray .int, 2) := by decide +kernel
theorem dX0_init_33 : decode cX0_init 33 = .ok (.putfield 21, 3) := by decide +kernel
theorem dX0_init_36 : decode cX0_init 36 = .ok (.aload_n 0, 1) := by decide +kernel
theorem dX0_init_37 : decode cX0_init 37 = .ok (.iconst 0, 1) := by decide +kernel
theorem dX0_init_38 : decode cX0_init 38 = .ok (.putfield 24, 3) := by decide +kernel
theorem dX0_init_41 : decode cX0_init 41 = .ok (.aload_n 0, 1) := by decide +kernel
theorem dX0_init_42 : decode cX0_init 42 = .ok (.iconst (-1), 1) := by decide +kernel
theorem dX0_init_43 : decode cX0_init 43 = .ok (.putfield 28, 3) := by decide +kernel
theorem dX0_init_46 : decode cX0_init 46 = .ok (.aload_n 0, 1) := by decide +kernel
theorem dX0_init_47 : decode cX0_init 47 = .ok (.iconst (-1), 1) := by decide +kernel
theorem dX0_init_48 : decode cX0_init 48 = .ok (.putfield 31, 3) := by decide +kernel
theorem dX0_init_51 : decode cX0_init 51 = .ok (.aload_n 0, 1) := by decide +kernel
theorem dX0_init_52 : decode cX0_init 52 = .ok (.iconst 0, 1) := by decide +kernel
theorem dX0_init_53 : decode cX0_init 53 = .ok (.putfield 34, 3) := by decide +kernel
theorem dX0_init_56 : decode cX0_init 56 = .ok (.aload_n 0, 1) := by decide +kernel
theorem dX0_init_57 : decode cX0_init 57 = .ok (.iconst 1, 1) := by decide +kernel
theorem dX0_init_58 : decode cX0_init 58 = .ok (.putfield 37, 3) := by decide +kernel
theorem dX0_init_61 : decode cX0_init 61 = .ok (.aload_n 0, 1) := by decide +kernel
theorem dX0_init_62 : decode cX0_init 62 = .ok (.iconst 0, 1) := by decide +kernel
theorem dX0_init_63 : decode cX0_init 63 = .ok (.putfield 40, 3) := by decide +kernel
theorem dX0_init_66 : decode cX0_init 66 = .ok (.return_, 1) := by decide +kernel
theorem dX0_copyFrom_0 : decode cX0_copyFrom 0 = .ok (.aload_n 1, 1) := by decide +kernel
theorem dX0_copyFrom_1 : decode cX0_copyFrom 1 = .ok (.getfield 9, 3) := by decide +kernel
theorem dX0_copyFrom_4 : decode cX0_copyFrom 4 = .ok (.iconst 0, 1) := by decide +kernel
theorem dX0_copyFrom_5 : decode cX0_copyFrom 5 = .ok (.aload_n 0, 1) := by decide +kernel
theorem dX0_copyFrom_6 : decode cX0_copyFrom 6 = .ok (.getfield 9, 3) := by decide +kernel
theorem dX0_copyFrom_9 : decode cX0_copyFrom 9 = .ok (.iconst 0, 1) := by decide +kernel
theorem dX0_copyFrom_10 : decode cX0_copyFrom 10 = .ok (.bipush 9, 2) := by decide +kernel
theorem dX0_copyFrom_12 : decode cX0_copyFrom 12 = .ok (.invokestatic 43, 3) := by decide +kernel
theorem dX0_copyFrom_15 : decode cX0_copyFrom 15 = .ok (.aload_n 1, 1) := by decide +kernel
theorem dX0_copyFrom_16 : decode cX0_copyFrom 16 = .ok (.getfield 15, 3) := by decide +kernel
theorem dX0_copyFrom_19 : decode cX0_copyFrom 19 = .ok (.iconst 0, 1) := by decide +kernel
theorem dX0_copyFrom_20 : decode cX0_copyFrom 20 = .ok (.aload_n 0, 1) := by decide +kernel
theorem dX0_copyFrom_21 : decode cX0_copyFrom 21 = .ok (.getfield 15, 3) := by decide +kernel
theorem dX0_copyFrom_24 : decode cX0_copyFrom 24 = .ok (.iconst 0, 1) := by decide +kernel
theorem dX0_copyFrom_25 : decode cX0_copyFrom 25 = .ok (.bipush 9, 2) := by decide +kernel
theorem dX0_copyFrom_27 : decode cX0_copyFrom 27 = .ok (.invokestatic 43, 3) := by decide +kernel
theorem dX0_copyFrom_30 : decode cX0_copyFrom 30 = .ok (.aload_n 1, 1) := by decide +kernel
theorem dX0_copyFrom_31 : decode cX0_copyFrom 31 = .ok (.getfield 18, 3) := by decide +kernel
theorem dX0_copyFrom_34 : decode cX0_copyFrom 34 = .ok (.iconst 0, 1) := by decide +kernel
theorem dX0_copyFrom_35 : decode cX0_copyFrom 35 = .ok (.aload_n 0, 1) := by decide +kernel
theorem dX0_copyFrom_36 : decode cX0_copyFrom 36 = .ok (.getfield 18, 3) := by decide +kernel
theorem dX0_copyFrom_39 : decode cX0_copyFrom 39 = .ok (.iconst 0, 1) := by decide +kernel
theorem dX0_copyFrom_40 : decode cX0_copyFrom 40 = .ok (.bipush 18, 2) := by decide +kernel
theorem dX0_copyFrom_42 : decode cX0_copyFrom 42 = .ok (.invokestatic 43, 3) := by decide +kernel
theorem dX0_copyFrom_45 : decode cX0_copyFrom 45 = .ok (.aload_n 1, 1) := by decide +kernel
theorem dX0_copyFrom_46 : decode cX0_copyFrom 46 = .ok (.getfield 21, 3) := by decide +kernel
theorem dX0_copyFrom_49 : decode cX0_copyFrom 49 = .ok (.iconst 0, 1) := by decide +kernel
theorem dX0_copyFrom_50 : decode cX0_copyFrom 50 = .ok (.aload_n 0, 1) := by decide +kernel
theorem dX0_copyFrom_51 : decode cX0_copyFrom 51 = .ok (.getfield 21, 3) := by decide +kernel
theorem dX0_copyFrom_54 : decode cX0_copyFrom 54 = .ok (.iconst 0, 1) := by decide +kernel
theorem dX0_copyFrom_55 : decode cX0_copyFrom 55 = .ok (.bipush 18, 2) := by decide +kernel
theorem dX0_copyFrom_57 : decode cX0_copyFrom 57 = .ok (.invokestatic 43, 3) := by decide +kernel
theorem dX0_copyFrom_60 : decode cX0_copyFrom 60 = .ok (.aload_n 0, 1) := by decide +kernel
theorem dX0_copyFrom_61 : decode cX0_copyFrom 61 = .ok (.aload_n 1, 1) := by decide +kernel
theorem dX0_copyFrom_62 : decode cX0_copyFrom 62 = .ok (.getfield 24, 3) := by decide +kernel
theorem dX0_copyFrom_65 : decode cX0_copyFrom 65 = .ok (.putfield 24, 3) := by decide +kernel
theorem dX0_copyFrom_68 : decode cX0_copyFrom 68 = .ok (.aload_n 0, 1) := by decide +kernel
theorem dX0_copyFrom_69 : decode cX0_copyFrom 69 = .ok (.aload_n 1, 1) := by decide +kernel
theorem dX0_copyFrom_70 : decode cX0_copyFrom 70 = .ok (.getfield 28, 3) := by decide +kernel
theorem dX0_copyFrom_73 : decode cX0_copyFrom 73 = .ok (.putfield 28, 3) := by decide +kernel
theorem dX0_copyFrom_76 : decode cX0_copyFrom 76 = .ok (.aload_n 0, 1) := by decide +kernel
theorem dX0_copyFrom_77 : decode cX0_copyFrom 77 = .ok (.aload_n 1, 1) := by decide +kernel
theorem dX0_copyFrom_78 : decode cX0_copyFrom 78 = .ok (.getfield 31, 3) := by decide +kernel
theorem dX0_copyFrom_81 : decode cX0_copyFrom 81 = .ok (.putfield 31, 3) := by decide +kernel
theorem dX0_copyFrom_84 : decode cX0_copyFrom 84 = .ok (.aload_n 0, 1) := by decide +kernel
theorem dX0_copyFrom_85 : decode cX0_copyFrom 85 = .ok (.aload_n 1, 1) := by decide +kernel
theorem dX0_copyFrom_86 : decode cX0_copyFrom 86 = .ok (.getfield 34, 3) := by decide +kernel
theorem dX0_copyFrom_89 : decode cX0_copyFrom 89 = .ok (.putfield 34, 3) := by decide +kernel
theorem dX0_copyFrom_92 : decode cX0_copyFrom 92 = .ok (.aload_n 0, 1) := by decide +kernel
theorem dX0_copyFrom_93 : decode cX0_copyFrom 93 = .ok (.aload_n 1, 1) := by decide +kernel
theorem dX0_copyFrom_94 : decode cX0_copyFrom 94 = .ok (.getfield 37, 3) := by decide +kernel
theorem dX0_copyFrom_97 : decode cX0_copyFrom 97 = .ok (.putfield 37, 3) := by decide +kernel
theorem dX0_copyFrom_100 : decode cX0_copyFrom 100 = .ok (.aload_n 0, 1) := by decide +kernel
theorem dX0_copyFrom_101 : decode cX0_copyFrom 101 = .ok (.aload_n 1, 1) := by decide +kernel
theorem dX0_copyFrom_102 : decode cX0_copyFrom 102 = .ok (.getfield 40, 3) := by decide +kernel
theorem dX0_copyFrom_105 : decode cX0_copyFrom 105 = .ok (.putfield 40, 3) := by decide +kernel
theorem dX0_copyFrom_108 : decode cX0_copyFrom 108 = .ok (.return_, 1) := by decide +kernel
theorem dX0_spot_0 : decode cX0_spot 0 = .ok (.iload_n 1, 1) := by decide +kernel
theorem dX0_spot_1 : decode cX0_spot 1 = .ok (.bipush 9, 2) := by decide +kernel
theorem dX0_spot_3 : decode cX0_spot 3 = .ok (.imul, 1) := by decide +kernel
theorem dX0_spot_4 : decode cX0_spot 4 = .ok (.iload_n 0, 1) := by decide +kernel
theorem dX0_spot_5 : decode cX0_spot 5 = .ok (.iadd, 1) := by decide +kernel
theorem dX0_spot_6 : decode cX0_spot 6 = .ok (.ireturn, 1) := by decide +kernel
theorem dX0_hasPeg_0 : decode cX0_hasPeg 0 = .ok (.iload_n 1, 1) := by decide +kernel
theorem dX0_hasPeg_1 : decode cX0_hasPeg 1 = .ok (.ifCond .lt 15, 3) := by decide +kernel
theorem dX0_hasPeg_4 : decode cX0_hasPeg 4 = .ok (.iload_n 1, 1) := by decide +kernel
theorem dX0_hasPeg_5 : decode cX0_hasPeg 5 = .ok (.aload_n 0, 1) := by decide +kernel
theorem dX0_hasPeg_6 : decode cX0_hasPeg 6 = .ok (.getfield 24, 3) := by decide +kernel
theorem dX0_hasPeg_9 : decode cX0_hasPeg 9 = .ok (.if_icmp .ge 7, 3) := by decide +kernel
theorem dX0_hasPeg_12 : decode cX0_hasPeg 12 = .ok (.iconst 1, 1) := by decide +kernel
theorem dX0_hasPeg_13 : decode cX0_hasPeg 13 = .ok (.goto 4, 3) := by decide +kernel
theorem dX0_hasPeg_16 : decode cX0_hasPeg 16 = .ok (.iconst 0, 1) := by decide +kernel
theorem dX0_hasPeg_17 : decode cX0_hasPeg 17 = .ok (.ireturn, 1) := by decide +kernel
theorem dX0_pegAt_0 : decode cX0_pegAt 0 = .ok (.iconst 0, 1) := by decide +kernel
theorem dX0_pegAt_1 : decode cX0_pegAt 1 = .ok (.istore_n 3, 1) := by decide +kernel
theorem dX0_pegAt_2 : decode cX0_pegAt 2 = .ok (.iload_n 3, 1) := by decide +kernel
theorem dX0_pegAt_3 : decode cX0_pegAt 3 = .ok (.aload_n 0, 1) := by decide +kernel
theorem dX0_pegAt_4 : decode cX0_pegAt 4 = .ok (.getfield 24, 3) := by decide +kernel
theorem dX0_pegAt_7 : decode cX0_pegAt 7 = .ok (.if_icmp .ge 31, 3) := by decide +kernel
theorem dX0_pegAt_10 : decode cX0_pegAt 10 = .ok (.aload_n 0, 1) := by decide +kernel
theorem dX0_pegAt_11 : decode cX0_pegAt 11 = .ok (.getfield 9, 3) := by decide +kernel
theorem dX0_pegAt_14 : decode cX0_pegAt 14 = .ok (.iload_n 3, 1) := by decide +kernel
theorem dX0_pegAt_15 : decode cX0_pegAt 15 = .ok (.iaload, 1) := by decide +kernel
theorem dX0_pegAt_16 : decode cX0_pegAt 16 = .ok (.iload_n 1, 1) := by decide +kernel
theorem dX0_pegAt_17 : decode cX0_pegAt 17 = .ok (.if_icmp .ne 15, 3) := by decide +kernel
theorem dX0_pegAt_20 : decode cX0_pegAt 20 = .ok (.aload_n 0, 1) := by decide +kernel
theorem dX0_pegAt_21 : decode cX0_pegAt 21 = .ok (.getfield 15, 3) := by decide +kernel
theorem dX0_pegAt_24 : decode cX0_pegAt 24 = .ok (.iload_n 3, 1) := by decide +kernel
theorem dX0_pegAt_25 : decode cX0_pegAt 25 = .ok (.iaload, 1) := by decide +kernel
theorem dX0_pegAt_26 : decode cX0_pegAt 26 = .ok (.iload_n 2, 1) := by decide +kernel
theorem dX0_pegAt_27 : decode cX0_pegAt 27 = .ok (.if_icmp .ne 5, 3) := by decide +kernel
theorem dX0_pegAt_30 : decode cX0_pegAt 30 = .ok (.iload_n 3, 1) := by decide +kernel
theorem dX0_pegAt_31 : decode cX0_pegAt 31 = .ok (.ireturn, 1) := by decide +kernel
theorem dX0_pegAt_32 : decode cX0_pegAt 32 = .ok (.iinc 3 1, 3) := by decide +kernel
theorem dX0_pegAt_35 : decode cX0_pegAt 35 = .ok (.goto (-33), 3) := by decide +kernel
theorem dX0_pegAt_38 : decode cX0_pegAt 38 = .ok (.iconst (-1), 1) := by decide +kernel
theorem dX0_pegAt_39 : decode cX0_pegAt 39 = .ok (.ireturn, 1) := by decide +kernel
theorem dX0_tryAdd_0 : decode cX0_tryAdd 0 = .ok (.aload_n 0, 1) := by decide +kernel
theorem dX0_tryAdd_1 : decode cX0_tryAdd 1 = .ok (.getfield 24, 3) := by decide +kernel
theorem dX0_tryAdd_4 : decode cX0_tryAdd 4 = .ok (.bipush 9, 2) := by decide +kernel
theorem dX0_tryAdd_6 : decode cX0_tryAdd 6 = .ok (.if_icmp .ge 13, 3) := by decide +kernel
theorem dX0_tryAdd_9 : decode cX0_tryAdd 9 = .ok (.aload_n 0, 1) := by decide +kernel
theorem dX0_tryAdd_10 : decode cX0_tryAdd 10 = .ok (.iload_n 1, 1) := by decide +kernel
theorem dX0_tryAdd_11 : decode cX0_tryAdd 11 = .ok (.iload_n 2, 1) := by decide +kernel
theorem dX0_tryAdd_12 : decode cX0_tryAdd 12 = .ok (.invokevirtual 49, 3) := by decide +kernel
theorem dX0_tryAdd_15 : decode cX0_tryAdd 15 = .ok (.iconst (-1), 1) := by decide +kernel
theorem dX0_tryAdd_16 : decode cX0_tryAdd 16 = .ok (.if_icmp .eq 5, 3) := by decide +kernel
theorem dX0_tryAdd_19 : decode cX0_tryAdd 19 = .ok (.iconst 0, 1) := by decide +kernel
theorem dX0_tryAdd_20 : decode cX0_tryAdd 20 = .ok (.ireturn, 1) := by decide +kernel
theorem dX0_tryAdd_21 : decode cX0_tryAdd 21 = .ok (.aload_n 0, 1) := by decide +kernel
theorem dX0_tryAdd_22 : decode cX0_tryAdd 22 = .ok (.getfield 9, 3) := by decide +kernel
theorem dX0_tryAdd_25 : decode cX0_tryAdd 25 = .ok (.aload_n 0, 1) := by decide +kernel
theorem dX0_tryAdd_26 : decode cX0_tryAdd 26 = .ok (.getfield 24, 3) := by decide +kernel
theorem dX0_tryAdd_29 : decode cX0_tryAdd 29 = .ok (.iload_n 1, 1) := by decide +kernel
theorem dX0_tryAdd_30 : decode cX0_tryAdd 30 = .ok (.iastore, 1) := by decide +kernel
theorem dX0_tryAdd_31 : decode cX0_tryAdd 31 = .ok (.aload_n 0, 1) := by decide +kernel
theorem dX0_tryAdd_32 : decode cX0_tryAdd 32 = .ok (.getfield 15, 3) := by decide +kernel
theorem dX0_tryAdd_35 : decode cX0_tryAdd 35 = .ok (.aload_n 0, 1) := by decide +kernel
theorem dX0_tryAdd_36 : decode cX0_tryAdd 36 = .ok (.getfield 24, 3) := by decide +kernel
theorem dX0_tryAdd_39 : decode cX0_tryAdd 39 = .ok (.iload_n 2, 1) := by decide +kernel
theorem dX0_tryAdd_40 : decode cX0_tryAdd 40 = .ok (.iastore, 1) := by decide +kernel
theorem dX0_tryAdd_41 : decode cX0_tryAdd 41 = .ok (.iconst 0, 1) := by decide +kernel
theorem dX0_tryAdd_42 : decode cX0_tryAdd 42 = .ok (.istore_n 3, 1) := by decide +kernel
theorem dX0_tryAdd_43 : decode cX0_tryAdd 43 = .ok (.iload_n 3, 1) := by decide +kernel
theorem dX0_tryAdd_44 : decode cX0_tryAdd 44 = .ok (.iconst 2, 1) := by decide +kernel
theorem dX0_tryAdd_45 : decode cX0_tryAdd 45 = .ok (.if_icmp .ge 20, 3) := by decide +kernel
theorem dX0_tryAdd_48 : decode cX0_tryAdd 48 = .ok (.aload_n 0, 1) := by decide +kernel
theorem dX0_tryAdd_49 : decode cX0_tryAdd 49 = .ok (.aload_n 0, 1) := by decide +kernel
theorem dX0_tryAdd_50 : decode cX0_tryAdd 50 = .ok (.getfield 24, 3) := by decide +kernel
theorem dX0_tryAdd_53 : decode cX0_tryAdd 53 = .ok (.iload_n 3, 1) := by decide +kernel
theorem dX0_tryAdd_54 : decode cX0_tryAdd 54 = .ok (.iconst 0, 1) := by decide +kernel
theorem dX0_tryAdd_55 : decode cX0_tryAdd 55 = .ok (.iconst 0, 1) := by decide +kernel
theorem dX0_tryAdd_56 : decode cX0_tryAdd 56 = .ok (.invokevirtual 53, 3) := by decide +kernel
theorem dX0_tryAdd_59 : decode cX0_tryAdd 59 = .ok (.iinc 3 1, 3) := by decide +kernel
theorem dX0_tryAdd_62 : decode cX0_tryAdd 62 = .ok (.goto (-19), 3) := by decide +kernel
theorem dX0_tryAdd_65 : decode cX0_tryAdd 65 = .ok (.aload_n 0, 1) := by decide +kernel
theorem dX0_tryAdd_66 : decode cX0_tryAdd 66 = .ok (.dup, 1) := by decide +kernel
theorem dX0_tryAdd_67 : decode cX0_tryAdd 67 = .ok (.getfield 24, 3) := by decide +kernel
theorem dX0_tryAdd_70 : decode cX0_tryAdd 70 = .ok (.iconst 1, 1) := by decide +kernel
theorem dX0_tryAdd_71 : decode cX0_tryAdd 71 = .ok (.iadd, 1) := by decide +kernel
theorem dX0_tryAdd_72 : decode cX0_tryAdd 72 = .ok (.putfield 24, 3) := by decide +kernel
theorem dX0_tryAdd_75 : decode cX0_tryAdd 75 = .ok (.iconst 1, 1) := by decide +kernel
theorem dX0_tryAdd_76 : decode cX0_tryAdd 76 = .ok (.ireturn, 1) := by decide +kernel
theorem dX0_replace_0 : decode cX0_replace 0 = .ok (.aload_n 0, 1) := by decide +kernel
theorem dX0_replace_1 : decode cX0_replace 1 = .ok (.getfield 18, 3) := by decide +kernel
theorem dX0_replace_4 : decode cX0_replace 4 = .ok (.iload_n 1, 1) := by decide +kernel
theorem dX0_replace_5 : decode cX0_replace 5 = .ok (.iload_n 2, 1) := by decide +kernel
theorem dX0_replace_6 : decode cX0_replace 6 = .ok (.invokestatic 57, 3) := by decide +kernel
theorem dX0_replace_9 : decode cX0_replace 9 = .ok (.iload_n 3, 1) := by decide +kernel
theorem dX0_replace_10 : decode cX0_replace 10 = .ok (.iastore, 1) := by decide +kernel
theorem dX0_replace_11 : decode cX0_replace 11 = .ok (.aload_n 0, 1) := by decide +kernel
theorem dX0_replace_12 : decode cX0_replace 12 = .ok (.getfield 21, 3) := by decide +kernel
theorem dX0_replace_15 : decode cX0_replace 15 = .ok (.iload_n 1, 1) := by decide +kernel
theorem dX0_replace_16 : decode cX0_replace 16 = .ok (.iload_n 2, 1) := by decide +kernel
theorem dX0_replace_17 : decode cX0_replace 17 = .ok (.invokestatic 57, 3) := by decide +kernel
theorem dX0_replace_20 : decode cX0_replace 20 = .ok (.iload 4, 2) := by decide +kernel
theorem dX0_replace_22 : decode cX0_replace 22 = .ok (.iastore, 1) := by decide +kernel
theorem dX0_replace_23 : decode cX0_replace 23 = .ok (.return_, 1) := by decide +kernel
theorem dX0_tryPut_0 : decode cX0_tryPut 0 = .ok (.aload_n 0, 1) := by decide +kernel
theorem dX0_tryPut_1 : decode cX0_tryPut 1 = .ok (.iload_n 1, 1) := by decide +kernel
theorem dX0_tryPut_2 : decode cX0_tryPut 2 = .ok (.invokevirtual 60, 3) := by decide +kernel
theorem dX0_tryPut_5 : decode cX0_tryPut 5 = .ok (.ifCond .ne 5, 3) := by decide +kernel
theorem dX0_tryPut_8 : decode cX0_tryPut 8 = .ok (.iconst 0, 1) := by decide +kernel
theorem dX0_tryPut_9 : decode cX0_tryPut 9 = .ok (.ireturn, 1) := by decide +kernel
theorem dX0_tryPut_10 : decode cX0_tryPut 10 = .ok (.aload_n 0, 1) := by decide +kernel
theorem dX0_tryPut_11 : decode cX0_tryPut 11 = .ok (.getfield 18, 3) := by decide +kernel
theorem dX0_tryPut_14 : decode cX0_tryPut 14 = .ok (.iload_n 1, 1) := by decide +kernel
theorem dX0_tryPut_15 : decode cX0_tryPut 15 = .ok (.iload_n 2, 1) := by decide +kernel
theorem dX0_tryPut_16 : decode cX0_tryPut 16 = .ok (.invokestatic 57, 3) := by decide +kernel
theorem dX0_tryPut_19 : decode cX0_tryPut 19 = .ok (.iaload, 1) := by decide +kernel
theorem dX0_tryPut_20 : decode cX0_tryPut 20 = .ok (.istore 5, 2) := by decide +kernel
theorem dX0_tryPut_22 : decode cX0_tryPut 22 = .ok (.aload_n 0, 1) := by decide +kernel
theorem dX0_tryPut_23 : decode cX0_tryPut 23 = .ok (.getfield 21, 3) := by decide +kernel
theorem dX0_tryPut_26 : decode cX0_tryPut 26 = .ok (.iload_n 1, 1) := by decide +kernel
theorem dX0_tryPut_27 : decode cX0_tryPut 27 = .ok (.iload_n 2, 1) := by decide +kernel
theorem dX0_tryPut_28 : decode cX0_tryPut 28 = .ok (.invokestatic 57, 3) := by decide +kernel
theorem dX0_tryPut_31 : decode cX0_tryPut 31 = .ok (.iaload, 1) := by decide +kernel
theorem dX0_tryPut_32 : decode cX0_tryPut 32 = .ok (.istore 6, 2) := by decide +kernel
theorem dX0_tryPut_34 : decode cX0_tryPut 34 = .ok (.aload_n 0, 1) := by decide +kernel
theorem dX0_tryPut_35 : decode cX0_tryPut 35 = .ok (.iload_n 1, 1) := by decide +kernel
theorem dX0_tryPut_36 : decode cX0_tryPut 36 = .ok (.iload_n 2, 1) := by decide +kernel
theorem dX0_tryPut_37 : decode cX0_tryPut 37 = .ok (.iload_n 3, 1) := by decide +kernel
theorem dX0_tryPut_38 : decode cX0_tryPut 38 = .ok (.iload 4, 2) := by decide +kernel
theorem dX0_tryPut_40 : decode cX0_tryPut 40 = .ok (.invokevirtual 53, 3) := by decide +kernel
theorem dX0_tryPut_43 : decode cX0_tryPut 43 = .ok (.aload_n 0, 1) := by decide +kernel
theorem dX0_tryPut_44 : decode cX0_tryPut 44 = .ok (.iload_n 1, 1) := by decide +kernel
theorem dX0_tryPut_45 : decode cX0_tryPut 45 = .ok (.iload_n 2, 1) := by decide +kernel
theorem dX0_tryPut_46 : decode cX0_tryPut 46 = .ok (.invokevirtual 64, 3) := by decide +kernel
theorem dX0_tryPut_49 : decode cX0_tryPut 49 = .ok (.ifCond .eq 5, 3) := by decide +kernel
theorem dX0_tryPut_52 : decode cX0_tryPut 52 = .ok (.iconst 1, 1) := by decide +kernel
theorem dX0_tryPut_53 : decode cX0_tryPut 53 = .ok (.ireturn, 1) := by decide +kernel
theorem dX0_tryPut_54 : decode cX0_tryPut 54 = .ok (.aload_n 0, 1) := by decide +kernel
theorem dX0_tryPut_55 : decode cX0_tryPut 55 = .ok (.iload_n 1, 1) := by decide +kernel
theorem dX0_tryPut_56 : decode cX0_tryPut 56 = .ok (.iload_n 2, 1) := by decide +kernel
theorem dX0_tryPut_57 : decode cX0_tryPut 57 = .ok (.iload 5, 2) := by decide +kernel
theorem dX0_tryPut_59 : decode cX0_tryPut 59 = .ok (.iload 6, 2) := by decide +kernel
theorem dX0_tryPut_61 : decode cX0_tryPut 61 = .ok (.invokevirtual 53, 3) := by decide +kernel
theorem dX0_tryPut_64 : decode cX0_tryPut 64 = .ok (.iconst 0, 1) := by decide +kernel
theorem dX0_tryPut_65 : decode cX0_tryPut 65 = .ok (.ireturn, 1) := by decide +kernel
theorem dX0_setGoal_0 : decode cX0_setGoal 0 = .ok (.iload_n 2, 1) := by decide +kernel
theorem dX0_setGoal_1 : decode cX0_setGoal 1 = .ok (.i2l, 1) := by decide +kernel
theorem dX0_setGoal_2 : decode cX0_setGoal 2 = .ok (.iload_n 3, 1) := by decide +kernel
theorem dX0_setGoal_3 : decode cX0_setGoal 3 = .ok (.i2l, 1) := by decide +kernel
theorem dX0_setGoal_4 : decode cX0_setGoal 4 = .ok (.invokestatic 68, 3) := by decide +kernel
theorem dX0_setGoal_7 : decode cX0_setGoal 7 = .ok (.l2i, 1) := by decide +kernel
theorem dX0_setGoal_8 : decode cX0_setGoal 8 = .ok (.istore 4, 2) := by decide +kernel
theorem dX0_setGoal_10 : decode cX0_setGoal 10 = .ok (.aload_n 0, 1) := by decide +kernel
theorem dX0_setGoal_11 : decode cX0_setGoal 11 = .ok (.iload_n 1, 1) := by decide +kernel
theorem dX0_setGoal_12 : decode cX0_setGoal 12 = .ok (.putfield 31, 3) := by decide +kernel
theorem dX0_setGoal_15 : decode cX0_setGoal 15 = .ok (.aload_n 0, 1) := by decide +kernel
theorem dX0_setGoal_16 : decode cX0_setGoal 16 = .ok (.iload 4, 2) := by decide +kernel
theorem dX0_setGoal_18 : decode cX0_setGoal 18 = .ok (.iconst 1, 1) := by decide +kernel
theorem dX0_setGoal_19 : decode cX0_setGoal 19 = .ok (.if_icmp .le 10, 3) := by decide +kernel
theorem dX0_setGoal_22 : decode cX0_setGoal 22 = .ok (.iload_n 2, 1) := by decide +kernel
theorem dX0_setGoal_23 : decode cX0_setGoal 23 = .ok (.iload 4, 2) := by decide +kernel
theorem dX0_setGoal_25 : decode cX0_setGoal 25 = .ok (.idiv, 1) := by decide +kernel
theorem dX0_setGoal_26 : decode cX0_setGoal 26 = .ok (.goto 4, 3) := by decide +kernel
theorem dX0_setGoal_29 : decode cX0_setGoal 29 = .ok (.iload_n 2, 1) := by decide +kernel
theorem dX0_setGoal_30 : decode cX0_setGoal 30 = .ok (.putfield 34, 3) := by decide +kernel
theorem dX0_setGoal_33 : decode cX0_setGoal 33 = .ok (.aload_n 0, 1) := by decide +kernel
theorem dX0_setGoal_34 : decode cX0_setGoal 34 = .ok (.iload 4, 2) := by decide +kernel
theorem dX0_setGoal_36 : decode cX0_setGoal 36 = .ok (.iconst 1, 1) := by decide +kernel
theorem dX0_setGoal_37 : decode cX0_setGoal 37 = .ok (.if_icmp .le 10, 3) := by decide +kernel
theorem dX0_setGoal_40 : decode cX0_setGoal 40 = .ok (.iload_n 3, 1) := by decide +kernel
theorem dX0_setGoal_41 : decode cX0_setGoal 41 = .ok (.iload 4, 2) := by decide +kernel
theorem dX0_setGoal_43 : decode cX0_setGoal 43 = .ok (.idiv, 1) := by decide +kernel
theorem dX0_setGoal_44 : decode cX0_setGoal 44 = .ok (.goto 4, 3) := by decide +kernel
theorem dX0_setGoal_47 : decode cX0_setGoal 47 = .ok (.iload_n 3, 1) := by decide +kernel
theorem dX0_setGoal_48 : decode cX0_setGoal 48 = .ok (.putfield 37, 3) := by decide +kernel
theorem dX0_setGoal_51 : decode cX0_setGoal 51 = .ok (.return_, 1) := by decide +kernel
theorem dX0_signedTeeth_0 : decode cX0_signedTeeth 0 = .ok (.aload_n 0, 1) := by decide +kernel
theorem dX0_signedTeeth_1 : decode cX0_signedTeeth 1 = .ok (.getfield 18, 3) := by decide +kernel
theorem dX0_signedTeeth_4 : decode cX0_signedTeeth 4 = .ok (.iload_n 1, 1) := by decide +kernel
theorem dX0_signedTeeth_5 : decode cX0_signedTeeth 5 = .ok (.iaload, 1) := by decide +kernel
theorem dX0_signedTeeth_6 : decode cX0_signedTeeth 6 = .ok (.aload_n 0, 1) := by decide +kernel
theorem dX0_signedTeeth_7 : decode cX0_signedTeeth 7 = .ok (.getfield 18, 3) := by decide +kernel
theorem dX0_signedTeeth_10 : decode cX0_signedTeeth 10 = .ok (.iload_n 2, 1) := by decide +kernel
theorem dX0_signedTeeth_11 : decode cX0_signedTeeth 11 = .ok (.iaload, 1) := by decide +kernel
theorem dX0_signedTeeth_12 : decode cX0_signedTeeth 12 = .ok (.if_icmp .ne 13, 3) := by decide +kernel
theorem dX0_signedTeeth_15 : decode cX0_signedTeeth 15 = .ok (.aload_n 0, 1) := by decide +kernel
theorem dX0_signedTeeth_16 : decode cX0_signedTeeth 16 = .ok (.getfield 21, 3) := by decide +kernel
theorem dX0_signedTeeth_19 : decode cX0_signedTeeth 19 = .ok (.iload_n 1, 1) := by decide +kernel
theorem dX0_signedTeeth_20 : decode cX0_signedTeeth 20 = .ok (.iaload, 1) := by decide +kernel
theorem dX0_signedTeeth_21 : decode cX0_signedTeeth 21 = .ok (.ineg, 1) := by decide +kernel
theorem dX0_signedTeeth_22 : decode cX0_signedTeeth 22 = .ok (.goto 9, 3) := by decide +kernel
theorem dX0_signedTeeth_25 : decode cX0_signedTeeth 25 = .ok (.aload_n 0, 1) := by decide +kernel
theorem dX0_signedTeeth_26 : decode cX0_signedTeeth 26 = .ok (.getfield 21, 3) := by decide +kernel
theorem dX0_signedTeeth_29 : decode cX0_signedTeeth 29 = .ok (.iload_n 1, 1) := by decide +kernel
theorem dX0_signedTeeth_30 : decode cX0_signedTeeth 30 = .ok (.iaload, 1) := by decide +kernel
theorem dX0_signedTeeth_31 : decode cX0_signedTeeth 31 = .ok (.ireturn, 1) := by decide +kernel
theorem dX0_squareOfDistance_0 : decode cX0_squareOfDistance 0 = .ok (.aload_n 0, 1) := by decide +kernel
theorem dX0_squareOfDistance_1 : decode cX0_squareOfDistance 1 = .ok (.getfield 9, 3) := by decide +kernel
theorem dX0_squareOfDistance_4 : decode cX0_squareOfDistance 4 = .ok (.iload_n 1, 1) := by decide +kernel
theorem dX0_squareOfDistance_5 : decode cX0_squareOfDistance 5 = .ok (.iaload, 1) := by decide +kernel
theorem dX0_squareOfDistance_6 : decode cX0_squareOfDistance 6 = .ok (.aload_n 0, 1) := by decide +kernel
theorem dX0_squareOfDistance_7 : decode cX0_squareOfDistance 7 = .ok (.getfield 9, 3) := by decide +kernel
theorem dX0_squareOfDistance_10 : decode cX0_squareOfDistance 10 = .ok (.iload_n 2, 1) := by decide +kernel
theorem dX0_squareOfDistance_11 : decode cX0_squareOfDistance 11 = .ok (.iaload, 1) := by decide +kernel
theorem dX0_squareOfDistance_12 : decode cX0_squareOfDistance 12 = .ok (.isub, 1) := by decide +kernel
theorem dX0_squareOfDistance_13 : decode cX0_squareOfDistance 13 = .ok (.istore_n 3, 1) := by decide +kernel
theorem dX0_squareOfDistance_14 : decode cX0_squareOfDistance 14 = .ok (.aload_n 0, 1) := by decide +kernel
theorem dX0_squareOfDistance_15 : decode cX0_squareOfDistance 15 = .ok (.getfield 15, 3) := by decide +kernel
theorem dX0_squareOfDistance_18 : decode cX0_squareOfDistance 18 = .ok (.iload_n 1, 1) := by decide +kernel
theorem dX0_squareOfDistance_19 : decode cX0_squareOfDistance 19 = .ok (.iaload, 1) := by decide +kernel
theorem dX0_squareOfDistance_20 : decode cX0_squareOfDistance 20 = .ok (.aload_n 0, 1) := by decide +kernel
theorem dX0_squareOfDistance_21 : decode cX0_squareOfDistance 21 = .ok (.getfield 15, 3) := by decide +kernel
theorem dX0_squareOfDistance_24 : decode cX0_squareOfDistance 24 = .ok (.iload_n 2, 1) := by decide +kernel
theorem dX0_squareOfDistance_25 : decode cX0_squareOfDistance 25 = .ok (.iaload, 1) := by decide +kernel
theorem dX0_squareOfDistance_26 : decode cX0_squareOfDistance 26 = .ok (.isub, 1) := by decide +kernel
theorem dX0_squareOfDistance_27 : decode cX0_squareOfDistance 27 = .ok (.istore 4, 2) := by decide +kernel
theorem dX0_squareOfDistance_29 : decode cX0_squareOfDistance 29 = .ok (.iload_n 3, 1) := by decide +kernel
theorem dX0_squareOfDistance_30 : decode cX0_squareOfDistance 30 = .ok (.iload_n 3, 1) := by decide +kernel
theorem dX0_squareOfDistance_31 : decode cX0_squareOfDistance 31 = .ok (.imul, 1) := by decide +kernel
theorem dX0_squareOfDistance_32 : decode cX0_squareOfDistance 32 = .ok (.iload 4, 2) := by decide +kernel
theorem dX0_squareOfDistance_34 : decode cX0_squareOfDistance 34 = .ok (.iload 4, 2) := by decide +kernel
theorem dX0_squareOfDistance_36 : decode cX0_squareOfDistance 36 = .ok (.imul, 1) := by decide +kernel
theorem dX0_squareOfDistance_37 : decode cX0_squareOfDistance 37 = .ok (.iadd, 1) := by decide +kernel
theorem dX0_squareOfDistance_38 : decode cX0_squareOfDistance 38 = .ok (.ireturn, 1) := by decide +kernel
theorem dX0_meshDistance_0 : decode cX0_meshDistance 0 = .ok (.aload_n 0, 1) := by decide +kernel
theorem dX0_meshDistance_1 : decode cX0_meshDistance 1 = .ok (.getfield 18, 3) := by decide +kernel
theorem dX0_meshDistance_4 : decode cX0_meshDistance 4 = .ok (.iload_n 1, 1) := by decide +kernel
theorem dX0_meshDistance_5 : decode cX0_meshDistance 5 = .ok (.iaload, 1) := by decide +kernel
theorem dX0_meshDistance_6 : decode cX0_meshDistance 6 = .ok (.iconst 1, 1) := by decide +kernel
theorem dX0_meshDistance_7 : decode cX0_meshDistance 7 = .ok (.if_icmp .ne 27, 3) := by decide +kernel
theorem dX0_meshDistance_10 : decode cX0_meshDistance 10 = .ok (.aload_n 0, 1) := by decide +kernel
theorem dX0_meshDistance_11 : decode cX0_meshDistance 11 = .ok (.getfield 18, 3) := by decide +kernel
theorem dX0_meshDistance_14 : decode cX0_meshDistance 14 = .ok (.iload_n 2, 1) := by decide +kernel
theorem dX0_meshDistance_15 : decode cX0_meshDistance 15 = .ok (.iaload, 1) := by decide +kernel
theorem dX0_meshDistance_16 : decode cX0_meshDistance 16 = .ok (.iconst 1, 1) := by decide +kernel
theorem dX0_meshDistance_17 : decode cX0_meshDistance 17 = .ok (.if_icmp .ne 17, 3) := by decide +kernel
theorem dX0_meshDistance_20 : decode cX0_meshDistance 20 = .ok (.aload_n 0, 1) := by decide +kernel
theorem dX0_meshDistance_21 : decode cX0_meshDistance 21 = .ok (.getfield 21, 3) := by decide +kernel
theorem dX0_meshDistance_24 : decode cX0_meshDistance 24 = .ok (.iload_n 1, 1) := by decide +kernel
theorem dX0_meshDistance_25 : decode cX0_meshDistance 25 = .ok (.iaload, 1) := by decide +kernel
theorem dX0_meshDistance_26 : decode cX0_meshDistance 26 = .ok (.aload_n 0, 1) := by decide +kernel
theorem dX0_meshDistance_27 : decode cX0_meshDistance 27 = .ok (.getfield 21, 3) := by decide +kernel
theorem dX0_meshDistance_30 : decode cX0_meshDistance 30 = .ok (.iload_n 2, 1) := by decide +kernel
theorem dX0_meshDistance_31 : decode cX0_meshDistance 31 = .ok (.iaload, 1) := by decide +kernel
theorem dX0_meshDistance_32 : decode cX0_meshDistance 32 = .ok (.iadd, 1) := by decide +kernel
theorem dX0_meshDistance_33 : decode cX0_meshDistance 33 = .ok (.ireturn, 1) := by decide +kernel
theorem dX0_meshDistance_34 : decode cX0_meshDistance 34 = .ok (.iconst 0, 1) := by decide +kernel
theorem dX0_meshDistance_35 : decode cX0_meshDistance 35 = .ok (.istore_n 3, 1) := by decide +kernel
theorem dX0_meshDistance_36 : decode cX0_meshDistance 36 = .ok (.aload_n 0, 1) := by decide +kernel
theorem dX0_meshDistance_37 : decode cX0_meshDistance 37 = .ok (.getfield 18, 3) := by decide +kernel
theorem dX0_meshDistance_40 : decode cX0_meshDistance 40 = .ok (.iload_n 1, 1) := by decide +kernel
theorem dX0_meshDistance_41 : decode cX0_meshDistance 41 = .ok (.iaload, 1) := by decide +kernel
theorem dX0_meshDistance_42 : decode cX0_meshDistance 42 = .ok (.iconst 2, 1) := by decide +kernel
theorem dX0_meshDistance_43 : decode cX0_meshDistance 43 = .ok (.if_icmp .ne 30, 3) := by decide +kernel
theorem dX0_meshDistance_46 : decode cX0_meshDistance 46 = .ok (.aload_n 0, 1) := by decide +kernel
theorem dX0_meshDistance_47 : decode cX0_meshDistance 47 = .ok (.getfield 18, 3) := by decide +kernel
theorem dX0_meshDistance_50 : decode cX0_meshDistance 50 = .ok (.iload_n 2, 1) := by decide +kernel
theorem dX0_meshDistance_51 : decode cX0_meshDistance 51 = .ok (.iaload, 1) := by decide +kernel
theorem dX0_meshDistance_52 : decode cX0_meshDistance 52 = .ok (.iconst 1, 1) := by decide +kernel
theorem dX0_meshDistance_53 : decode cX0_meshDistance 53 = .ok (.if_icmp .ne 20, 3) := by decide +kernel
theorem dX0_meshDistance_56 : decode cX0_meshDistance 56 = .ok (.aload_n 0, 1) := by decide +kernel
theorem dX0_meshDistance_57 : decode cX0_meshDistance 57 = .ok (.getfield 21, 3) := by decide +kernel
theorem dX0_meshDistance_60 : decode cX0_meshDistance 60 = .ok (.iload_n 1, 1) := by decide +kernel
theorem dX0_meshDistance_61 : decode cX0_meshDistance 61 = .ok (.iaload, 1) := by decide +kernel
theorem dX0_meshDistance_62 : decode cX0_meshDistance 62 = .ok (.aload_n 0, 1) := by decide +kernel
theorem dX0_meshDistance_63 : decode cX0_meshDistance 63 = .ok (.getfield 21, 3) := by decide +kernel
theorem dX0_meshDistance_66 : decode cX0_meshDistance 66 = .ok (.iload_n 2, 1) := by decide +kernel
theorem dX0_meshDistance_67 : decode cX0_meshDistance 67 = .ok (.iaload, 1) := by decide +kernel
theorem dX0_meshDistance_68 : decode cX0_meshDistance 68 = .ok (.isub, 1) := by decide +kernel
theorem dX0_meshDistance_69 : decode cX0_meshDistance 69 = .ok (.istore_n 3, 1) := by decide +kernel
theorem dX0_meshDistance_70 : decode cX0_meshDistance 70 = .ok (.goto 37, 3) := by decide +kernel
theorem dX0_meshDistance_73 : decode cX0_meshDistance 73 = .ok (.aload_n 0, 1) := by decide +kernel
theorem dX0_meshDistance_74 : decode cX0_meshDistance 74 = .ok (.getfield 18, 3) := by decide +kernel
theorem dX0_meshDistance_77 : decode cX0_meshDistance 77 = .ok (.iload_n 1, 1) := by decide +kernel
theorem dX0_meshDistance_78 : decode cX0_meshDistance 78 = .ok (.iaload, 1) := by decide +kernel
theorem dX0_meshDistance_79 : decode cX0_meshDistance 79 = .ok (.iconst 1, 1) := by decide +kernel
theorem dX0_meshDistance_80 : decode cX0_meshDistance 80 = .ok (.if_icmp .ne 27, 3) := by decide +kernel
theorem dX0_meshDistance_83 : decode cX0_meshDistance 83 = .ok (.aload_n 0, 1) := by decide +kernel
theorem dX0_meshDistance_84 : decode cX0_meshDistance 84 = .ok (.getfield 18, 3) := by decide +kernel
theorem dX0_meshDistance_87 : decode cX0_meshDistance 87 = .ok (.iload_n 2, 1) := by decide +kernel
theorem dX0_meshDistance_88 : decode cX0_meshDistance 88 = .ok (.iaload, 1) := by decide +kernel
theorem dX0_meshDistance_89 : decode cX0_meshDistance 89 = .ok (.iconst 2, 1) := by decide +kernel
theorem dX0_meshDistance_90 : decode cX0_meshDistance 90 = .ok (.if_icmp .ne 17, 3) := by decide +kernel
theorem dX0_meshDistance_93 : decode cX0_meshDistance 93 = .ok (.aload_n 0, 1) := by decide +kernel
theorem dX0_meshDistance_94 : decode cX0_meshDistance 94 = .ok (.getfield 21, 3) := by decide +kernel
theorem dX0_meshDistance_97 : decode cX0_meshDistance 97 = .ok (.iload_n 2, 1) := by decide +kernel
theorem dX0_meshDistance_98 : decode cX0_meshDistance 98 = .ok (.iaload, 1) := by decide +kernel
theorem dX0_meshDistance_99 : decode cX0_meshDistance 99 = .ok (.aload_n 0, 1) := by decide +kernel
theorem dX0_meshDistance_100 : decode cX0_meshDistance 100 = .ok (.getfield 21, 3) := by decide +kernel
theorem dX0_meshDistance_103 : decode cX0_meshDistance 103 = .ok (.iload_n 1, 1) := by decide +kernel
theorem dX0_meshDistance_104 : decode cX0_meshDistance 104 = .ok (.iaload, 1) := by decide +kernel
theorem dX0_meshDistance_105 : decode cX0_meshDistance 105 = .ok (.isub, 1) := by decide +kernel
theorem dX0_meshDistance_106 : decode cX0_meshDistance 106 = .ok (.istore_n 3, 1) := by decide +kernel
theorem dX0_meshDistance_107 : decode cX0_meshDistance 107 = .ok (.iload_n 3, 1) := by decide +kernel
theorem dX0_meshDistance_108 : decode cX0_meshDistance 108 = .ok (.ifCond .le 7, 3) := by decide +kernel
theorem dX0_meshDistance_111 : decode cX0_meshDistance 111 = .ok (.iload_n 3, 1) := by decide +kernel
theorem dX0_meshDistance_112 : decode cX0_meshDistance 112 = .ok (.goto 4, 3) := by decide +kernel
theorem dX0_meshDistance_115 : decode cX0_meshDistance 115 = .ok (.iconst 0, 1) := by decide +kernel
theorem dX0_meshDistance_116 : decode cX0_meshDistance 116 = .ok (.ireturn, 1) := by decide +kernel
theorem dX0_leastSquare_0 : decode cX0_leastSquare 0 = .ok (.iload_n 1, 1) := by decide +kernel
theorem dX0_leastSquare_1 : decode cX0_leastSquare 1 = .ok (.aload_n 0, 1) := by decide +kernel
theorem dX0_leastSquare_2 : decode cX0_leastSquare 2 = .ok (.getfield 40, 3) := by decide +kernel
theorem dX0_leastSquare_5 : decode cX0_leastSquare 5 = .ok (.if_icmp .le 12, 3) := by decide +kernel
theorem dX0_leastSquare_8 : decode cX0_leastSquare 8 = .ok (.iload_n 1, 1) := by decide +kernel
theorem dX0_leastSquare_9 : decode cX0_leastSquare 9 = .ok (.aload_n 0, 1) := by decide +kernel
theorem dX0_leastSquare_10 : decode cX0_leastSquare 10 = .ok (.getfield 40, 3) := by decide +kernel
theorem dX0_leastSquare_13 : decode cX0_leastSquare 13 = .ok (.isub, 1) := by decide +kernel
theorem dX0_leastSquare_14 : decode cX0_leastSquare 14 = .ok (.goto 4, 3) := by decide +kernel
theorem dX0_leastSquare_17 : decode cX0_leastSquare 17 = .ok (.iconst 0, 1) := by decide +kernel
theorem dX0_leastSquare_18 : decode cX0_leastSquare 18 = .ok (.istore_n 2, 1) := by decide +kernel
theorem dX0_leastSquare_19 : decode cX0_leastSquare 19 = .ok (.iload_n 2, 1) := by decide +kernel
theorem dX0_leastSquare_20 : decode cX0_leastSquare 20 = .ok (.iload_n 2, 1) := by decide +kernel
theorem dX0_leastSquare_21 : decode cX0_leastSquare 21 = .ok (.imul, 1) := by decide +kernel
theorem dX0_leastSquare_22 : decode cX0_leastSquare 22 = .ok (.ireturn, 1) := by decide +kernel
theorem dX0_mostSquare_0 : decode cX0_mostSquare 0 = .ok (.iload_n 1, 1) := by decide +kernel
theorem dX0_mostSquare_1 : decode cX0_mostSquare 1 = .ok (.aload_n 0, 1) := by decide +kernel
theorem dX0_mostSquare_2 : decode cX0_mostSquare 2 = .ok (.getfield 40, 3) := by decide +kernel
theorem dX0_mostSquare_5 : decode cX0_mostSquare 5 = .ok (.iadd, 1) := by decide +kernel
theorem dX0_mostSquare_6 : decode cX0_mostSquare 6 = .ok (.istore_n 2, 1) := by decide +kernel
theorem dX0_mostSquare_7 : decode cX0_mostSquare 7 = .ok (.iload_n 2, 1) := by decide +kernel
theorem dX0_mostSquare_8 : decode cX0_mostSquare 8 = .ok (.iload_n 2, 1) := by decide +kernel
theorem dX0_mostSquare_9 : decode cX0_mostSquare 9 = .ok (.imul, 1) := by decide +kernel
theorem dX0_mostSquare_10 : decode cX0_mostSquare 10 = .ok (.ireturn, 1) := by decide +kernel
theorem dX0_areMeshing_0 : decode cX0_areMeshing 0 = .ok (.iload_n 1, 1) := by decide +kernel
theorem dX0_areMeshing_1 : decode cX0_areMeshing 1 = .ok (.iload_n 2, 1) := by decide +kernel
theorem dX0_areMeshing_2 : decode cX0_areMeshing 2 = .ok (.if_icmp .ne 5, 3) := by decide +kernel
theorem dX0_areMeshing_5 : decode cX0_areMeshing 5 = .ok (.iconst 0, 1) := by decide +kernel
theorem dX0_areMeshing_6 : decode cX0_areMeshing 6 = .ok (.ireturn, 1) := by decide +kernel
theorem dX0_areMeshing_7 : decode cX0_areMeshing 7 = .ok (.aload_n 0, 1) := by decide +kernel
theorem dX0_areMeshing_8 : decode cX0_areMeshing 8 = .ok (.iload_n 1, 1) := by decide +kernel
theorem dX0_areMeshing_9 : decode cX0_areMeshing 9 = .ok (.iload_n 3, 1) := by decide +kernel
theorem dX0_areMeshing_10 : decode cX0_areMeshing 10 = .ok (.invokestatic 57, 3) := by decide +kernel
theorem dX0_areMeshing_13 : decode cX0_areMeshing 13 = .ok (.iload_n 2, 1) := by decide +kernel
theorem dX0_areMeshing_14 : decode cX0_areMeshing 14 = .ok (.iload_n 3, 1) := by decide +kernel
theorem dX0_areMeshing_15 : decode cX0_areMeshing 15 = .ok (.invokestatic 57, 3) := by decide +kernel
theorem dX0_areMeshing_18 : decode cX0_areMeshing 18 = .ok (.invokevirtual 72, 3) := by decide +kernel
theorem dX0_areMeshing_21 : decode cX0_areMeshing 21 = .ok (.istore 4, 2) := by decide +kernel
theorem dX0_areMeshing_23 : decode cX0_areMeshing 23 = .ok (.aload_n 0, 1) := by decide +kernel
theorem dX0_areMeshing_24 : decode cX0_areMeshing 24 = .ok (.iload_n 1, 1) := by decide +kernel
theorem dX0_areMeshing_25 : decode cX0_areMeshing 25 = .ok (.iload_n 2, 1) := by decide +kernel
theorem dX0_areMeshing_26 : decode cX0_areMeshing 26 = .ok (.invokevirtual 75, 3) := by decide +kernel
theorem dX0_areMeshing_29 : decode cX0_areMeshing 29 = .ok (.istore 5, 2) := by decide +kernel
theorem dX0_areMeshing_31 : decode cX0_areMeshing 31 = .ok (.iload 4, 2) := by decide +kernel
theorem dX0_areMeshing_33 : decode cX0_areMeshing 33 = .ok (.ifCond .le 29, 3) := by decide +kernel
theorem dX0_areMeshing_36 : decode cX0_areMeshing 36 = .ok (.iload 5, 2) := by decide +kernel
theorem dX0_areMeshing_38 : decode cX0_areMeshing 38 = .ok (.aload_n 0, 1) := by decide +kernel
theorem dX0_areMeshing_39 : decode cX0_areMeshing 39 = .ok (.iload 4, 2) := by decide +kernel
theorem dX0_areMeshing_41 : decode cX0_areMeshing 41 = .ok (.invokevirtual 78, 3) := by decide +kernel
theorem dX0_areMeshing_44 : decode cX0_areMeshing 44 = .ok (.if_icmp .lt 18, 3) := by decide +kernel
theorem dX0_areMeshing_47 : decode cX0_areMeshing 47 = .ok (.iload 5, 2) := by decide +kernel
theorem dX0_areMeshing_49 : decode cX0_areMeshing 49 = .ok (.aload_n 0, 1) := by decide +kernel
theorem dX0_areMeshing_50 : decode cX0_areMeshing 50 = .ok (.iload 4, 2) := by decide +kernel
theorem dX0_areMeshing_52 : decode cX0_areMeshing 52 = .ok (.invokevirtual 82, 3) := by decide +kernel
theorem dX0_areMeshing_55 : decode cX0_areMeshing 55 = .ok (.if_icmp .gt 7, 3) := by decide +kernel
theorem dX0_areMeshing_58 : decode cX0_areMeshing 58 = .ok (.iconst 1, 1) := by decide +kernel
theorem dX0_areMeshing_59 : decode cX0_areMeshing 59 = .ok (.goto 4, 3) := by decide +kernel
theorem dX0_areMeshing_62 : decode cX0_areMeshing 62 = .ok (.iconst 0, 1) := by decide +kernel
theorem dX0_areMeshing_63 : decode cX0_areMeshing 63 = .ok (.ireturn, 1) := by decide +kernel
theorem dX0_areOverlapping_0 : decode cX0_areOverlapping 0 = .ok (.iload_n 1, 1) := by decide +kernel
theorem dX0_areOverlapping_1 : decode cX0_areOverlapping 1 = .ok (.iload_n 3, 1) := by decide +kernel
theorem dX0_areOverlapping_2 : decode cX0_areOverlapping 2 = .ok (.invokestatic 57, 3) := by decide +kernel
theorem dX0_areOverlapping_5 : decode cX0_areOverlapping 5 = .ok (.istore 4, 2) := by decide +kernel
theorem dX0_areOverlapping_7 : decode cX0_areOverlapping 7 = .ok (.iload_n 2, 1) := by decide +kernel
theorem dX0_areOverlapping_8 : decode cX0_areOverlapping 8 = .ok (.iload_n 3, 1) := by decide +kernel
theorem dX0_areOverlapping_9 : decode cX0_areOverlapping 9 = .ok (.invokestatic 57, 3) := by decide +kernel
theorem dX0_areOverlapping_12 : decode cX0_areOverlapping 12 = .ok (.istore 5, 2) := by decide +kernel
theorem dX0_areOverlapping_14 : decode cX0_areOverlapping 14 = .ok (.iload_n 1, 1) := by decide +kernel
theorem dX0_areOverlapping_15 : decode cX0_areOverlapping 15 = .ok (.iload_n 2, 1) := by decide +kernel
theorem dX0_areOverlapping_16 : decode cX0_areOverlapping 16 = .ok (.if_icmp .eq 23, 3) := by decide +kernel
theorem dX0_areOverlapping_19 : decode cX0_areOverlapping 19 = .ok (.aload_n 0, 1) := by decide +kernel
theorem dX0_areOverlapping_20 : decode cX0_areOverlapping 20 = .ok (.getfield 18, 3) := by decide +kernel
theorem dX0_areOverlapping_23 : decode cX0_areOverlapping 23 = .ok (.iload 4, 2) := by decide +kernel
theorem dX0_areOverlapping_25 : decode cX0_areOverlapping 25 = .ok (.iaload, 1) := by decide +kernel
theorem dX0_areOverlapping_26 : decode cX0_areOverlapping 26 = .ok (.ifCond .eq 13, 3) := by decide +kernel
theorem dX0_areOverlapping_29 : decode cX0_areOverlapping 29 = .ok (.aload_n 0, 1) := by decide +kernel
theorem dX0_areOverlapping_30 : decode cX0_areOverlapping 30 = .ok (.getfield 18, 3) := by decide +kernel
theorem dX0_areOverlapping_33 : decode cX0_areOverlapping 33 = .ok (.iload 5, 2) := by decide +kernel
theorem dX0_areOverlapping_35 : decode cX0_areOverlapping 35 = .ok (.iaload, 1) := by decide +kernel
theorem dX0_areOverlapping_36 : decode cX0_areOverlapping 36 = .ok (.ifCond .ne 5, 3) := by decide +kernel
theorem dX0_areOverlapping_39 : decode cX0_areOverlapping 39 = .ok (.iconst 0, 1) := by decide +kernel
theorem dX0_areOverlapping_40 : decode cX0_areOverlapping 40 = .ok (.ireturn, 1) := by decide +kernel
theorem dX0_areOverlapping_41 : decode cX0_areOverlapping 41 = .ok (.aload_n 0, 1) := by decide +kernel
theorem dX0_areOverlapping_42 : decode cX0_areOverlapping 42 = .ok (.iload_n 1, 1) := by decide +kernel
theorem dX0_areOverlapping_43 : decode cX0_areOverlapping 43 = .ok (.iload_n 2, 1) := by decide +kernel
theorem dX0_areOverlapping_44 : decode cX0_areOverlapping 44 = .ok (.invokevirtual 75, 3) := by decide +kernel
theorem dX0_areOverlapping_47 : decode cX0_areOverlapping 47 = .ok (.istore 6, 2) := by decide +kernel
theorem dX0_areOverlapping_49 : decode cX0_areOverlapping 49 = .ok (.aload_n 0, 1) := by decide +kernel
theorem dX0_areOverlapping_50 : decode cX0_areOverlapping 50 = .ok (.iload 4, 2) := by decide +kernel
theorem dX0_areOverlapping_52 : decode cX0_areOverlapping 52 = .ok (.iload 5, 2) := by decide +kernel
theorem dX0_areOverlapping_54 : decode cX0_areOverlapping 54 = .ok (.invokevirtual 72, 3) := by decide +kernel
theorem dX0_areOverlapping_57 : decode cX0_areOverlapping 57 = .ok (.istore 7, 2) := by decide +kernel
theorem dX0_areOverlapping_59 : decode cX0_areOverlapping 59 = .ok (.aload_n 0, 1) := by decide +kernel
theorem dX0_areOverlapping_60 : decode cX0_areOverlapping 60 = .ok (.getfield 18, 3) := by decide +kernel
theorem dX0_areOverlapping_63 : decode cX0_areOverlapping 63 = .ok (.iload 4, 2) := by decide +kernel
theorem dX0_areOverlapping_65 : decode cX0_areOverlapping 65 = .ok (.iaload, 1) := by decide +kernel
theorem dX0_areOverlapping_66 : decode cX0_areOverlapping 66 = .ok (.aload_n 0, 1) := by decide +kernel
theorem dX0_areOverlapping_67 : decode cX0_areOverlapping 67 = .ok (.getfield 18, 3) := by decide +kernel
theorem dX0_areOverlapping_70 : decode cX0_areOverlapping 70 = .ok (.iload 5, 2) := by decide +kernel
theorem dX0_areOverlapping_72 : decode cX0_areOverlapping 72 = .ok (.iaload, 1) := by decide +kernel
theorem dX0_areOverlapping_73 : decode cX0_areOverlapping 73 = .ok (.if_icmp .ne 31, 3) := by decide +kernel
theorem dX0_areOverlapping_76 : decode cX0_areOverlapping 76 = .ok (.aload_n 0, 1) := by decide +kernel
theorem dX0_areOverlapping_77 : decode cX0_areOverlapping 77 = .ok (.getfield 18, 3) := by decide +kernel
theorem dX0_areOverlapping_80 : decode cX0_areOverlapping 80 = .ok (.iload 4, 2) := by decide +kernel
theorem dX0_areOverlapping_82 : decode cX0_areOverlapping 82 = .ok (.iaload, 1) := by decide +kernel
theorem dX0_areOverlapping_83 : decode cX0_areOverlapping 83 = .ok (.iconst 1, 1) := by decide +kernel
theorem dX0_areOverlapping_84 : decode cX0_areOverlapping 84 = .ok (.if_icmp .ne 18, 3) := by decide +kernel
theorem dX0_areOverlapping_87 : decode cX0_areOverlapping 87 = .ok (.iload 6, 2) := by decide +kernel
theorem dX0_areOverlapping_89 : decode cX0_areOverlapping 89 = .ok (.aload_n 0, 1) := by decide +kernel
theorem dX0_areOverlapping_90 : decode cX0_areOverlapping 90 = .ok (.iload 7, 2) := by decide +kernel
theorem dX0_areOverlapping_92 : decode cX0_areOverlapping 92 = .ok (.invokevirtual 78, 3) := by decide +kernel
theorem dX0_areOverlapping_95 : decode cX0_areOverlapping 95 = .ok (.if_icmp .ge 7, 3) := by decide +kernel
theorem dX0_areOverlapping_98 : decode cX0_areOverlapping 98 = .ok (.iconst 1, 1) := by decide +kernel
theorem dX0_areOverlapping_99 : decode cX0_areOverlapping 99 = .ok (.goto 4, 3) := by decide +kernel
theorem dX0_areOverlapping_102 : decode cX0_areOverlapping 102 = .ok (.iconst 0, 1) := by decide +kernel
theorem dX0_areOverlapping_103 : decode cX0_areOverlapping 103 = .ok (.ireturn, 1) := by decide +kernel
theorem dX0_areOverlapping_104 : decode cX0_areOverlapping 104 = .ok (.aload_n 0, 1) := by decide +kernel
theorem dX0_areOverlapping_105 : decode cX0_areOverlapping 105 = .ok (.getfield 21, 3) := by decide +kernel
theorem dX0_areOverlapping_108 : decode cX0_areOverlapping 108 = .ok (.iload 4, 2) := by decide +kernel
theorem dX0_areOverlapping_110 : decode cX0_areOverlapping 110 = .ok (.iaload, 1) := by decide +kernel
theorem dX0_areOverlapping_111 : decode cX0_areOverlapping 111 = .ok (.aload_n 0, 1) := by decide +kernel
theorem dX0_areOverlapping_112 : decode cX0_areOverlapping 112 = .ok (.getfield 21, 3) := by decide +kernel
theorem dX0_areOverlapping_115 : decode cX0_areOverlapping 115 = .ok (.iload 5, 2) := by decide +kernel
theorem dX0_areOverlapping_117 : decode cX0_areOverlapping 117 = .ok (.iaload, 1) := by decide +kernel
theorem dX0_areOverlapping_118 : decode cX0_areOverlapping 118 = .ok (.iadd, 1) := by decide +kernel
theorem dX0_areOverlapping_119 : decode cX0_areOverlapping 119 = .ok (.istore 8, 2) := by decide +kernel
theorem dX0_areOverlapping_121 : decode cX0_areOverlapping 121 = .ok (.iload 6, 2) := by decide +kernel
theorem dX0_areOverlapping_123 : decode cX0_areOverlapping 123 = .ok (.iload 8, 2) := by decide +kernel
theorem dX0_areOverlapping_125 : decode cX0_areOverlapping 125 = .ok (.iload 8, 2) := by decide +kernel
theorem dX0_areOverlapping_127 : decode cX0_areOverlapping 127 = .ok (.imul, 1) := by decide +kernel
theorem dX0_areOverlapping_128 : decode cX0_areOverlapping 128 = .ok (.if_icmp .ge 23, 3) := by decide +kernel
theorem dX0_areOverlapping_131 : decode cX0_areOverlapping 131 = .ok (.iload 7, 2) := by decide +kernel
theorem dX0_areOverlapping_133 : decode cX0_areOverlapping 133 = .ok (.ifCond .eq 14, 3) := by decide +kernel
theorem dX0_areOverlapping_136 : decode cX0_areOverlapping 136 = .ok (.iload 6, 2) := by decide +kernel
theorem dX0_areOverlapping_138 : decode cX0_areOverlapping 138 = .ok (.aload_n 0, 1) := by decide +kernel
theorem dX0_areOverlapping_139 : decode cX0_areOverlapping 139 = .ok (.iload 7, 2) := by decide +kernel
theorem dX0_areOverlapping_141 : decode cX0_areOverlapping 141 = .ok (.invokevirtual 82, 3) := by decide +kernel
theorem dX0_areOverlapping_144 : decode cX0_areOverlapping 144 = .ok (.if_icmp .le 7, 3) := by decide +kernel
theorem dX0_areOverlapping_147 : decode cX0_areOverlapping 147 = .ok (.iconst 1, 1) := by decide +kernel
theorem dX0_areOverlapping_148 : decode cX0_areOverlapping 148 = .ok (.goto 4, 3) := by decide +kernel
theorem dX0_areOverlapping_151 : decode cX0_areOverlapping 151 = .ok (.iconst 0, 1) := by decide +kernel
theorem dX0_areOverlapping_152 : decode cX0_areOverlapping 152 = .ok (.ireturn, 1) := by decide +kernel
theorem dX0_fits_0 : decode cX0_fits 0 = .ok (.iconst 0, 1) := by decide +kernel
theorem dX0_fits_1 : decode cX0_fits 1 = .ok (.istore_n 3, 1) := by decide +kernel
theorem dX0_fits_2 : decode cX0_fits 2 = .ok (.iload_n 3, 1) := by decide +kernel
theorem dX0_fits_3 : decode cX0_fits 3 = .ok (.aload_n 0, 1) := by decide +kernel
theorem dX0_fits_4 : decode cX0_fits 4 = .ok (.getfield 24, 3) := by decide +kernel
theorem dX0_fits_7 : decode cX0_fits 7 = .ok (.if_icmp .ge 21, 3) := by decide +kernel
theorem dX0_fits_10 : decode cX0_fits 10 = .ok (.aload_n 0, 1) := by decide +kernel
theorem dX0_fits_11 : decode cX0_fits 11 = .ok (.iload_n 1, 1) := by decide +kernel
theorem dX0_fits_12 : decode cX0_fits 12 = .ok (.iload_n 3, 1) := by decide +kernel
theorem dX0_fits_13 : decode cX0_fits 13 = .ok (.iload_n 2, 1) := by decide +kernel
theorem dX0_fits_14 : decode cX0_fits 14 = .ok (.invokevirtual 85, 3) := by decide +kernel
theorem dX0_fits_17 : decode cX0_fits 17 = .ok (.ifCond .eq 5, 3) := by decide +kernel
theorem dX0_fits_20 : decode cX0_fits 20 = .ok (.iconst 0, 1) := by decide +kernel
theorem dX0_fits_21 : decode cX0_fits 21 = .ok (.ireturn, 1) := by decide +kernel
theorem dX0_fits_22 : decode cX0_fits 22 = .ok (.iinc 3 1, 3) := by decide +kernel
theorem dX0_fits_25 : decode cX0_fits 25 = .ok (.goto (-23), 3) := by decide +kernel
theorem dX0_fits_28 : decode cX0_fits 28 = .ok (.iconst 1, 1) := by decide +kernel
theorem dX0_fits_29 : decode cX0_fits 29 = .ok (.ireturn, 1) := by decide +kernel
theorem dX0_meshesOnLevel_0 : decode cX0_meshesOnLevel 0 = .ok (.iconst 0, 1) := by decide +kernel
theorem dX0_meshesOnLevel_1 : decode cX0_meshesOnLevel 1 = .ok (.istore_n 3, 1) := by decide +kernel
theorem dX0_meshesOnLevel_2 : decode cX0_meshesOnLevel 2 = .ok (.iconst 0, 1) := by decide +kernel
theorem dX0_meshesOnLevel_3 : decode cX0_meshesOnLevel 3 = .ok (.istore 4, 2) := by decide +kernel
theorem dX0_meshesOnLevel_5 : decode cX0_meshesOnLevel 5 = .ok (.iload 4, 2) := by decide +kernel
theorem dX0_meshesOnLevel_7 : decode cX0_meshesOnLevel 7 = .ok (.aload_n 0, 1) := by decide +kernel
theorem dX0_meshesOnLevel_8 : decode cX0_meshesOnLevel 8 = .ok (.getfield 24, 3) := by decide +kernel
theorem dX0_meshesOnLevel_11 : decode cX0_meshesOnLevel 11 = .ok (.if_icmp .ge 23, 3) := by decide +kernel
theorem dX0_meshesOnLevel_14 : decode cX0_meshesOnLevel 14 = .ok (.aload_n 0, 1) := by decide +kernel
theorem dX0_meshesOnLevel_15 : decode cX0_meshesOnLevel 15 = .ok (.iload_n 1, 1) := by decide +kernel
theorem dX0_meshesOnLevel_16 : decode cX0_meshesOnLevel 16 = .ok (.iload 4, 2) := by decide +kernel
theorem dX0_meshesOnLevel_18 : decode cX0_meshesOnLevel 18 = .ok (.iload_n 2, 1) := by decide +kernel
theorem dX0_meshesOnLevel_19 : decode cX0_meshesOnLevel 19 = .ok (.invokevirtual 89, 3) := by decide +kernel
theorem dX0_meshesOnLevel_22 : decode cX0_meshesOnLevel 22 = .ok (.ifCond .eq 6, 3) := by decide +kernel
theorem dX0_meshesOnLevel_25 : decode cX0_meshesOnLevel 25 = .ok (.iinc 3 1, 3) := by decide +kernel
theorem dX0_meshesOnLevel_28 : decode cX0_meshesOnLevel 28 = .ok (.iinc 4 1, 3) := by decide +kernel
theorem dX0_meshesOnLevel_31 : decode cX0_meshesOnLevel 31 = .ok (.goto (-26), 3) := by decide +kernel
theorem dX0_meshesOnLevel_34 : decode cX0_meshesOnLevel 34 = .ok (.iload_n 3, 1) := by decide +kernel
theorem dX0_meshesOnLevel_35 : decode cX0_meshesOnLevel 35 = .ok (.ireturn, 1) := by decide +kernel
theorem dX0_things_0 : decode cX0_things 0 = .ok (.iconst 0, 1) := by decide +kernel
theorem dX0_things_1 : decode cX0_things 1 = .ok (.istore_n 2, 1) := by decide +kernel
theorem dX0_things_2 : decode cX0_things 2 = .ok (.iconst 0, 1) := by decide +kernel
theorem dX0_things_3 : decode cX0_things 3 = .ok (.istore_n 3, 1) := by decide +kernel
theorem dX0_things_4 : decode cX0_things 4 = .ok (.iload_n 3, 1) := by decide +kernel
theorem dX0_things_5 : decode cX0_things 5 = .ok (.aload_n 0, 1) := by decide +kernel
theorem dX0_things_6 : decode cX0_things 6 = .ok (.getfield 24, 3) := by decide +kernel
theorem dX0_things_9 : decode cX0_things 9 = .ok (.if_icmp .ge 42, 3) := by decide +kernel
theorem dX0_things_12 : decode cX0_things 12 = .ok (.iconst 0, 1) := by decide +kernel
theorem dX0_things_13 : decode cX0_things 13 = .ok (.istore 4, 2) := by decide +kernel
theorem dX0_things_15 : decode cX0_things 15 = .ok (.iload 4, 2) := by decide +kernel
theorem dX0_things_17 : decode cX0_things 17 = .ok (.iconst 2, 1) := by decide +kernel
theorem dX0_things_18 : decode cX0_things 18 = .ok (.if_icmp .ge 27, 3) := by decide +kernel
theorem dX0_things_21 : decode cX0_things 21 = .ok (.aload_n 0, 1) := by decide +kernel
theorem dX0_things_22 : decode cX0_things 22 = .ok (.getfield 18, 3) := by decide +kernel
theorem dX0_things_25 : decode cX0_things 25 = .ok (.iload_n 3, 1) := by decide +kernel
theorem dX0_things_26 : decode cX0_things 26 = .ok (.iload 4, 2) := by decide +kernel
theorem dX0_things_28 : decode cX0_things 28 = .ok (.invokestatic 57, 3) := by decide +kernel
theorem dX0_things_31 : decode cX0_things 31 = .ok (.iaload, 1) := by decide +kernel
theorem dX0_things_32 : decode cX0_things 32 = .ok (.iload_n 1, 1) := by decide +kernel
theorem dX0_things_33 : decode cX0_things 33 = .ok (.if_icmp .ne 6, 3) := by decide +kernel
theorem dX0_things_36 : decode cX0_things 36 = .ok (.iinc 2 1, 3) := by decide +kernel
theorem dX0_things_39 : decode cX0_things 39 = .ok (.iinc 4 1, 3) := by decide +kernel
theorem dX0_things_42 : decode cX0_things 42 = .ok (.goto (-27), 3) := by decide +kernel
theorem dX0_things_45 : decode cX0_things 45 = .ok (.iinc 3 1, 3) := by decide +kernel
theorem dX0_things_48 : decode cX0_things 48 = .ok (.goto (-44), 3) := by decide +kernel
theorem dX0_things_51 : decode cX0_things 51 = .ok (.iload_n 2, 1) := by decide +kernel
theorem dX0_things_52 : decode cX0_things 52 = .ok (.ireturn, 1) := by decide +kernel
theorem dX0_overlaps_0 : decode cX0_overlaps 0 = .ok (.iconst 0, 1) := by decide +kernel
theorem dX0_overlaps_1 : decode cX0_overlaps 1 = .ok (.istore_n 1, 1) := by decide +kernel
theorem dX0_overlaps_2 : decode cX0_overlaps 2 = .ok (.iconst 0, 1) := by decide +kernel
theorem dX0_overlaps_3 : decode cX0_overlaps 3 = .ok (.istore_n 2, 1) := by decide +kernel
theorem dX0_overlaps_4 : decode cX0_overlaps 4 = .ok (.iload_n 2, 1) := by decide +kernel
theorem dX0_overlaps_5 : decode cX0_overlaps 5 = .ok (.aload_n 0, 1) := by decide +kernel
theorem dX0_overlaps_6 : decode cX0_overlaps 6 = .ok (.getfield 24, 3) := by decide +kernel
theorem dX0_overlaps_9 : decode cX0_overlaps 9 = .ok (.if_icmp .ge 56, 3) := by decide +kernel
theorem dX0_overlaps_12 : decode cX0_overlaps 12 = .ok (.iload_n 2, 1) := by decide +kernel
theorem dX0_overlaps_13 : decode cX0_overlaps 13 = .ok (.iconst 1, 1) := by decide +kernel
theorem dX0_overlaps_14 : decode cX0_overlaps 14 = .ok (.iadd, 1) := by decide +kernel
theorem dX0_overlaps_15 : decode cX0_overlaps 15 = .ok (.istore_n 3, 1) := by decide +kernel
theorem dX0_overlaps_16 : decode cX0_overlaps 16 = .ok (.iload_n 3, 1) := by decide +kernel
theorem dX0_overlaps_17 : decode cX0_overlaps 17 = .ok (.aload_n 0, 1) := by decide +kernel
theorem dX0_overlaps_18 : decode cX0_overlaps 18 = .ok (.getfield 24, 3) := by decide +kernel
theorem dX0_overlaps_21 : decode cX0_overlaps 21 = .ok (.if_icmp .ge 38, 3) := by decide +kernel
theorem dX0_overlaps_24 : decode cX0_overlaps 24 = .ok (.iconst 0, 1) := by decide +kernel
theorem dX0_overlaps_25 : decode cX0_overlaps 25 = .ok (.istore 4, 2) := by decide +kernel
theorem dX0_overlaps_27 : decode cX0_overlaps 27 = .ok (.iload 4, 2) := by decide +kernel
theorem dX0_overlaps_29 : decode cX0_overlaps 29 = .ok (.iconst 2, 1) := by decide +kernel
theorem dX0_overlaps_30 : decode cX0_overlaps 30 = .ok (.if_icmp .ge 23, 3) := by decide +kernel
theorem dX0_overlaps_33 : decode cX0_overlaps 33 = .ok (.aload_n 0, 1) := by decide +kernel
theorem dX0_overlaps_34 : decode cX0_overlaps 34 = .ok (.iload_n 2, 1) := by decide +kernel
theorem dX0_overlaps_35 : decode cX0_overlaps 35 = .ok (.iload_n 3, 1) := by decide +kernel
theorem dX0_overlaps_36 : decode cX0_overlaps 36 = .ok (.iload 4, 2) := by decide +kernel
theorem dX0_overlaps_38 : decode cX0_overlaps 38 = .ok (.invokevirtual 85, 3) := by decide +kernel
theorem dX0_overlaps_41 : decode cX0_overlaps 41 = .ok (.ifCond .eq 6, 3) := by decide +kernel
theorem dX0_overlaps_44 : decode cX0_overlaps 44 = .ok (.iinc 1 1, 3) := by decide +kernel
theorem dX0_overlaps_47 : decode cX0_overlaps 47 = .ok (.iinc 4 1, 3) := by decide +kernel
theorem dX0_overlaps_50 : decode cX0_overlaps 50 = .ok (.goto (-23), 3) := by decide +kernel
theorem dX0_overlaps_53 : decode cX0_overlaps 53 = .ok (.iinc 3 1, 3) := by decide +kernel
theorem dX0_overlaps_56 : decode cX0_overlaps 56 = .ok (.goto (-40), 3) := by decide +kernel
theorem dX0_overlaps_59 : decode cX0_overlaps 59 = .ok (.iinc 2 1, 3) := by decide +kernel
theorem dX0_overlaps_62 : decode cX0_overlaps 62 = .ok (.goto (-58), 3) := by decide +kernel
theorem dX0_overlaps_65 : decode cX0_overlaps 65 = .ok (.iload_n 1, 1) := by decide +kernel
theorem dX0_overlaps_66 : decode cX0_overlaps 66 = .ok (.ireturn, 1) := by decide +kernel
theorem dX1_init_0 : decode cX1_init 0 = .ok (.aload_n 0, 1) := by decide +kernel
theorem dX1_init_1 : decode cX1_init 1 = .ok (.invokespecial 3, 3) := by decide +kernel
theorem dX1_init_4 : decode cX1_init 4 = .ok (.aload_n 0, 1) := by decide +kernel
theorem dX1_init_5 : decode cX1_init 5 = .ok (.bipush 6, 2) := by decide +kernel
theorem dX1_init_7 : decode cX1_init 7 = .ok (.anewarray 9, 3) := by decide +kernel
theorem dX1_init_10 : decode cX1_init 10 = .ok (.putfield 11, 3) := by decide +kernel
theorem dX1_init_13 : decode cX1_init 13 = .ok (.aload_n 0, 1) := by decide +kernel
theorem dX1_init_14 : decode cX1_init 14 = .ok (.iconst 0, 1) := by decide +kernel
theorem dX1_init_15 : decode cX1_init 15 = .ok (.putfield 17, 3) := by decide +kernel
theorem dX1_init_18 : decode cX1_init 18 = .ok (.aload_n 0, 1) := by decide +kernel
theorem dX1_init_19 : decode cX1_init 19 = .ok (.iconst 0, 1) := by decide +kernel
theorem dX1_init_20 : decode cX1_init 20 = .ok (.putfield 21, 3) := by decide +kernel
theorem dX1_init_23 : decode cX1_init 23 = .ok (.return_, 1) := by decide +kernel
theorem dX1_save_0 : decode cX1_save 0 = .ok (.aload_n 0, 1) := by decide +kernel
theorem dX1_save_1 : decode cX1_save 1 = .ok (.getfield 21, 3) := by decide +kernel
theorem dX1_save_4 : decode cX1_save 4 = .ok (.bipush 6, 2) := by decide +kernel
theorem dX1_save_6 : decode cX1_save 6 = .ok (.if_icmp .ne 26, 3) := by decide +kernel
theorem dX1_save_9 : decode cX1_save 9 = .ok (.aload_n 0, 1) := by decide +kernel
theorem dX1_save_10 : decode cX1_save 10 = .ok (.aload_n 0, 1) := by decide +kernel
theorem dX1_save_11 : decode cX1_save 11 = .ok (.getfield 17, 3) := by decide +kernel
theorem dX1_save_14 : decode cX1_save 14 = .ok (.iconst 1, 1) := by decide +kernel
theorem dX1_save_15 : decode cX1_save 15 = .ok (.iadd, 1) := by decide +kernel
theorem dX1_save_16 : decode cX1_save 16 = .ok (.bipush 6, 2) := by decide +kernel
theorem dX1_save_18 : decode cX1_save 18 = .ok (.irem, 1) := by decide +kernel
theorem dX1_save_19 : decode cX1_save 19 = .ok (.putfield 17, 3) := by decide +kernel
theorem dX1_save_22 : decode cX1_save 22 = .ok (.aload_n 0, 1) := by decide +kernel
theorem dX1_save_23 : decode cX1_save 23 = .ok (.dup, 1) := by decide +kernel
theorem dX1_save_24 : decode cX1_save 24 = .ok (.getfield 21, 3) := by decide +kernel
theorem dX1_save_27 : decode cX1_save 27 = .ok (.iconst 1, 1) := by decide +kernel
theorem dX1_save_28 : decode cX1_save 28 = .ok (.isub, 1) := by decide +kernel
theorem dX1_save_29 : decode cX1_save 29 = .ok (.putfield 21, 3) := by decide +kernel
theorem dX1_save_32 : decode cX1_save 32 = .ok (.aload_n 0, 1) := by decide +kernel
theorem dX1_save_33 : decode cX1_save 33 = .ok (.getfield 17, 3) := by decide +kernel
theorem dX1_save_36 : decode cX1_save 36 = .ok (.aload_n 0, 1) := by decide +kernel
theorem dX1_save_37 : decode cX1_save 37 = .ok (.getfield 21, 3) := by decide +kernel
theorem dX1_save_40 : decode cX1_save 40 = .ok (.iadd, 1) := by decide +kernel
theorem dX1_save_41 : decode cX1_save 41 = .ok (.bipush 6, 2) := by decide +kernel
theorem dX1_save_43 : decode cX1_save 43 = .ok (.irem, 1) := by decide +kernel
theorem dX1_save_44 : decode cX1_save 44 = .ok (.istore_n 2, 1) := by decide +kernel
theorem dX1_save_45 : decode cX1_save 45 = .ok (.aload_n 0, 1) := by decide +kernel
theorem dX1_save_46 : decode cX1_save 46 = .ok (.getfield 11, 3) := by decide +kernel
theorem dX1_save_49 : decode cX1_save 49 = .ok (.iload_n 2, 1) := by decide +kernel
theorem dX1_save_50 : decode cX1_save 50 = .ok (.aaload, 1) := by decide +kernel
theorem dX1_save_51 : decode cX1_save 51 = .ok (.astore_n 3, 1) := by decide +kernel
theorem dX1_save_52 : decode cX1_save 52 = .ok (.aload_n 3, 1) := by decide +kernel
theorem dX1_save_53 : decode cX1_save 53 = .ok (.ifnonnull 18, 3) := by decide +kernel
theorem dX1_save_56 : decode cX1_save 56 = .ok (.new 9, 3) := by decide +kernel
theorem dX1_save_59 : decode cX1_save 59 = .ok (.dup, 1) := by decide +kernel
theorem dX1_save_60 : decode cX1_save 60 = .ok (.invokespecial 24, 3) := by decide +kernel
theorem dX1_save_63 : decode cX1_save 63 = .ok (.astore_n 3, 1) := by decide +kernel
theorem dX1_save_64 : decode cX1_save 64 = .ok (.aload_n 0, 1) := by decide +kernel
theorem dX1_save_65 : decode cX1_save 65 = .ok (.getfield 11, 3) := by decide +kernel
theorem dX1_save_68 : decode cX1_save 68 = .ok (.iload_n 2, 1) := by decide +kernel
theorem dX1_save_69 : decode cX1_save 69 = .ok (.aload_n 3, 1) := by decide +kernel
theorem dX1_save_70 : decode cX1_save 70 = .ok (.aastore, 1) := by decide +kernel
theorem dX1_save_71 : decode cX1_save 71 = .ok (.aload_n 3, 1) := by decide +kernel
theorem dX1_save_72 : decode cX1_save 72 = .ok (.aload_n 1, 1) := by decide +kernel
theorem dX1_save_73 : decode cX1_save 73 = .ok (.invokevirtual 25, 3) := by decide +kernel
theorem dX1_save_76 : decode cX1_save 76 = .ok (.aload_n 0, 1) := by decide +kernel
theorem dX1_save_77 : decode cX1_save 77 = .ok (.dup, 1) := by decide +kernel
theorem dX1_save_78 : decode cX1_save 78 = .ok (.getfield 21, 3) := by decide +kernel
theorem dX1_save_81 : decode cX1_save 81 = .ok (.iconst 1, 1) := by decide +kernel
theorem dX1_save_82 : decode cX1_save 82 = .ok (.iadd, 1) := by decide +kernel
theorem dX1_save_83 : decode cX1_save 83 = .ok (.putfield 21, 3) := by decide +kernel
theorem dX1_save_86 : decode cX1_save 86 = .ok (.return_, 1) := by decide +kernel
theorem dX1_tryRestore_0 : decode cX1_tryRestore 0 = .ok (.aload_n 0, 1) := by decide +kernel
theorem dX1_tryRestore_1 : decode cX1_tryRestore 1 = .ok (.getfield 21, 3) := by decide +kernel
theorem dX1_tryRestore_4 : decode cX1_tryRestore 4 = .ok (.ifCond .ne 5, 3) := by decide +kernel
theorem dX1_tryRestore_7 : decode cX1_tryRestore 7 = .ok (.iconst 0, 1) := by decide +kernel
theorem dX1_tryRestore_8 : decode cX1_tryRestore 8 = .ok (.ireturn, 1) := by decide +kernel
theorem dX1_tryRestore_9 : decode cX1_tryRestore 9 = .ok (.aload_n 0, 1) := by decide +kernel
theorem dX1_tryRestore_10 : decode cX1_tryRestore 10 = .ok (.getfield 11, 3) := by decide +kernel
theorem dX1_tryRestore_13 : decode cX1_tryRestore 13 = .ok (.aload_n 0, 1) := by decide +kernel
theorem dX1_tryRestore_14 : decode cX1_tryRestore 14 = .ok (.getfield 17, 3) := by decide +kernel
theorem dX1_tryRestore_17 : decode cX1_tryRestore 17 = .ok (.aload_n 0, 1) := by decide +kernel
theorem dX1_tryRestore_18 : decode cX1_tryRestore 18 = .ok (.getfield 21, 3) := by decide +kernel
theorem dX1_tryRestore_21 : decode cX1_tryRestore 21 = .ok (.iadd, 1) := by decide +kernel
theorem dX1_tryRestore_22 : decode cX1_tryRestore 22 = .ok (.iconst 1, 1) := by decide +kernel
theorem dX1_tryRestore_23 : decode cX1_tryRestore 23 = .ok (.isub, 1) := by decide +kernel
theorem dX1_tryRestore_24 : decode cX1_tryRestore 24 = .ok (.bipush 6, 2) := by decide +kernel
theorem dX1_tryRestore_26 : decode cX1_tryRestore 26 = .ok (.irem, 1) := by decide +kernel
theorem dX1_tryRestore_27 : decode cX1_tryRestore 27 = .ok (.aaload, 1) := by decide +kernel
theorem dX1_tryRestore_28 : decode cX1_tryRestore 28 = .ok (.astore_n 2, 1) := by decide +kernel
theorem dX1_tryRestore_29 : decode cX1_tryRestore 29 = .ok (.aload_n 2, 1) := by decide +kernel
theorem dX1_tryRestore_30 : decode cX1_tryRestore 30 = .ok (.ifnonnull 5, 3) := by decide +kernel
theorem dX1_tryRestore_33 : decode cX1_tryRestore 33 = .ok (.iconst 0, 1) := by decide +kernel
theorem dX1_tryRestore_34 : decode cX1_tryRestore 34 = .ok (.ireturn, 1) := by decide +kernel
theorem dX1_tryRestore_35 : decode cX1_tryRestore 35 = .ok (.aload_n 1, 1) := by decide +kernel
theorem dX1_tryRestore_36 : decode cX1_tryRestore 36 = .ok (.aload_n 2, 1) := by decide +kernel
theorem dX1_tryRestore_37 : decode cX1_tryRestore 37 = .ok (.invokevirtual 25, 3) := by decide +kernel
theorem dX1_tryRestore_40 : decode cX1_tryRestore 40 = .ok (.aload_n 0, 1) := by decide +kernel
theorem dX1_tryRestore_41 : decode cX1_tryRestore 41 = .ok (.dup, 1) := by decide +kernel
theorem dX1_tryRestore_42 : decode cX1_tryRestore 42 = .ok (.getfield 21, 3) := by decide +kernel
theorem dX1_tryRestore_45 : decode cX1_tryRestore 45 = .ok (.iconst 1, 1) := by decide +kernel
theorem dX1_tryRestore_46 : decode cX1_tryRestore 46 = .ok (.isub, 1) := by decide +kernel
theorem dX1_tryRestore_47 : decode cX1_tryRestore 47 = .ok (.putfield 21, 3) := by decide +kernel
theorem dX1_tryRestore_50 : decode cX1_tryRestore 50 = .ok (.iconst 1, 1) := by decide +kernel
theorem dX1_tryRestore_51 : decode cX1_tryRestore 51 = .ok (.ireturn, 1) := by decide +kernel
theorem dX2_init_0 : decode cX2_init 0 = .ok (.aload_n 0, 1) := by decide +kernel
theorem dX2_init_1 : decode cX2_init 1 = .ok (.invokespecial 3, 3) := by decide +kernel
theorem dX2_init_4 : decode cX2_init 4 = .ok (.aload_n 0, 1) := by decide +kernel
theorem dX2_init_5 : decode cX2_init 5 = .ok (.bipush 9, 2) := by decide +kernel
theorem dX2_init_7 : decode cX2_init 7 = .ok (.newarray .int, 2) := by decide +kernel
theorem dX2_init_9 : decode cX2_init 9 = .ok (.putfield 9, 3) := by decide +kernel
theorem dX2_init_12 : decode cX2_init 12 = .ok (.aload_n 0, 1) := by decide +kernel
theorem dX2_init_13 : decode cX2_init 13 = .ok (.bipush 9, 2) := by decide +kernel
theorem dX2_init_15 : decode cX2_init 15 = .ok (.newarray .int, 2) := by decide +kernel
theorem dX2_init_17 : decode cX2_init 17 = .ok (.putfield 15, 3) := by decide +kernel
theorem dX2_init_20 : decode cX2_init 20 = .ok (.aload_n 0, 1) := by decide +kernel
theorem dX2_init_21 : decode cX2_init 21 = .ok (.iconst 0, 1) := by decide +kernel
theorem dX2_init_22 : decode cX2_init 22 = .ok (.putfield 18, 3) := by decide +kernel
theorem dX2_init_25 : decode cX2_init 25 = .ok (.aload_n 0, 1) := by decide +kernel
theorem dX2_init_26 : decode cX2_init 26 = .ok (.iconst 0, 1) := by decide +kernel
theorem dX2_init_27 : decode cX2_init 27 = .ok (.putfield 22, 3) := by decide +kernel
theorem dX2_init_30 : decode cX2_init 30 = .ok (.aload_n 0, 1) := by decide +kernel
theorem dX2_init_31 : decode cX2_init 31 = .ok (.lconst 0, 1) := by decide +kernel
theorem dX2_init_32 : decode cX2_init 32 = .ok (.putfield 25, 3) := by decide +kernel
theorem dX2_init_35 : decode cX2_init 35 = .ok (.aload_n 0, 1) := by decide +kernel
theorem dX2_init_36 : decode cX2_init 36 = .ok (.lconst 1, 1) := by decide +kernel
theorem dX2_init_37 : decode cX2_init 37 = .ok (.putfield 29, 3) := by decide +kernel
theorem dX2_init_40 : decode cX2_init 40 = .ok (.return_, 1) := by decide +kernel
theorem dX2_find_0 : decode cX2_find 0 = .ok (.aload_n 0, 1) := by decide +kernel
theorem dX2_find_1 : decode cX2_find 1 = .ok (.iconst 0, 1) := by decide +kernel
theorem dX2_find_2 : decode cX2_find 2 = .ok (.putfield 18, 3) := by decide +kernel
theorem dX2_find_5 : decode cX2_find 5 = .ok (.aload_n 0, 1) := by decide +kernel
theorem dX2_find_6 : decode cX2_find 6 = .ok (.iconst 0, 1) := by decide +kernel
theorem dX2_find_7 : decode cX2_find 7 = .ok (.putfield 22, 3) := by decide +kernel
theorem dX2_find_10 : decode cX2_find 10 = .ok (.aload_n 0, 1) := by decide +kernel
theorem dX2_find_11 : decode cX2_find 11 = .ok (.lconst 0, 1) := by decide +kernel
theorem dX2_find_12 : decode cX2_find 12 = .ok (.putfield 25, 3) := by decide +kernel
theorem dX2_find_15 : decode cX2_find 15 = .ok (.aload_n 0, 1) := by decide +kernel
theorem dX2_find_16 : decode cX2_find 16 = .ok (.lconst 1, 1) := by decide +kernel
theorem dX2_find_17 : decode cX2_find 17 = .ok (.putfield 29, 3) := by decide +kernel
theorem dX2_find_20 : decode cX2_find 20 = .ok (.aload_n 0, 1) := by decide +kernel
theorem dX2_find_21 : decode cX2_find 21 = .ok (.aload_n 1, 1) := by decide +kernel
theorem dX2_find_22 : decode cX2_find 22 = .ok (.aload_n 2, 1) := by decide +kernel
theorem dX2_find_23 : decode cX2_find 23 = .ok (.iload 4, 2) := by decide +kernel
theorem dX2_find_25 : decode cX2_find 25 = .ok (.invokevirtual 32, 3) := by decide +kernel
theorem dX2_find_28 : decode cX2_find 28 = .ok (.aload_n 0, 1) := by decide +kernel
theorem dX2_find_29 : decode cX2_find 29 = .ok (.getfield 15, 3) := by decide +kernel
theorem dX2_find_32 : decode cX2_find 32 = .ok (.iload_n 3, 1) := by decide +kernel
theorem dX2_find_33 : decode cX2_find 33 = .ok (.iaload, 1) := by decide +kernel
theorem dX2_find_34 : decode cX2_find 34 = .ok (.iconst (-1), 1) := by decide +kernel
theorem dX2_find_35 : decode cX2_find 35 = .ok (.if_icmp .ne 4, 3) := by decide +kernel
theorem dX2_find_38 : decode cX2_find 38 = .ok (.return_, 1) := by decide +kernel
theorem dX2_find_39 : decode cX2_find 39 = .ok (.aload_n 0, 1) := by decide +kernel
theorem dX2_find_40 : decode cX2_find 40 = .ok (.lconst 1, 1) := by decide +kernel
theorem dX2_find_41 : decode cX2_find 41 = .ok (.putfield 25, 3) := by decide +kernel
theorem dX2_find_44 : decode cX2_find 44 = .ok (.aload_n 0, 1) := by decide +kernel
theorem dX2_find_45 : decode cX2_find 45 = .ok (.getfield 9, 3) := by decide +kernel
theorem dX2_find_48 : decode cX2_find 48 = .ok (.iconst 0, 1) := by decide +kernel
theorem dX2_find_49 : decode cX2_find 49 = .ok (.iload_n 3, 1) := by decide +kernel
theorem dX2_find_50 : decode cX2_find 50 = .ok (.iastore, 1) := by decide +kernel
theorem dX2_find_51 : decode cX2_find 51 = .ok (.aload_n 0, 1) := by decide +kernel
theorem dX2_find_52 : decode cX2_find 52 = .ok (.iconst 1, 1) := by decide +kernel
theorem dX2_find_53 : decode cX2_find 53 = .ok (.putfield 18, 3) := by decide +kernel
theorem dX2_find_56 : decode cX2_find 56 = .ok (.aload_n 0, 1) := by decide +kernel
theorem dX2_find_57 : decode cX2_find 57 = .ok (.getfield 15, 3) := by decide +kernel
theorem dX2_find_60 : decode cX2_find 60 = .ok (.iload_n 3, 1) := by decide +kernel
theorem dX2_find_61 : decode cX2_find 61 = .ok (.iaload, 1) := by decide +kernel
theorem dX2_find_62 : decode cX2_find 62 = .ok (.iconst 1, 1) := by decide +kernel
theorem dX2_find_63 : decode cX2_find 63 = .ok (.isub, 1) := by decide +kernel
theorem dX2_find_64 : decode cX2_find 64 = .ok (.istore 5, 2) := by decide +kernel
theorem dX2_find_66 : decode cX2_find 66 = .ok (.iload 5, 2) := by decide +kernel
theorem dX2_find_68 : decode cX2_find 68 = .ok (.ifCond .lt 26, 3) := by decide +kernel
theorem dX2_find_71 : decode cX2_find 71 = .ok (.aload_n 0, 1) := by decide +kernel
theorem dX2_find_72 : decode cX2_find 72 = .ok (.getfield 18, 3) := by decide +kernel
theorem dX2_find_75 : decode cX2_find 75 = .ok (.bipush 9, 2) := by decide +kernel
theorem dX2_find_77 : decode cX2_find 77 = .ok (.if_icmp .ge 17, 3) := by decide +kernel
theorem dX2_find_80 : decode cX2_find 80 = .ok (.aload_n 0, 1) := by decide +kernel
theorem dX2_find_81 : decode cX2_find 81 = .ok (.aload_n 1, 1) := by decide +kernel
theorem dX2_find_82 : decode cX2_find 82 = .ok (.aload_n 2, 1) := by decide +kernel
theorem dX2_find_83 : decode cX2_find 83 = .ok (.iload 5, 2) := by decide +kernel
theorem dX2_find_85 : decode cX2_find 85 = .ok (.invokevirtual 36, 3) := by decide +kernel
theorem dX2_find_88 : decode cX2_find 88 = .ok (.iinc 5 (-1), 3) := by decide +kernel
theorem dX2_find_91 : decode cX2_find 91 = .ok (.goto (-25), 3) := by decide +kernel
theorem dX2_find_94 : decode cX2_find 94 = .ok (.iconst 1, 1) := by decide +kernel
theorem dX2_find_95 : decode cX2_find 95 = .ok (.istore 5, 2) := by decide +kernel
theorem dX2_find_97 : decode cX2_find 97 = .ok (.iload 5, 2) := by decide +kernel
theorem dX2_find_99 : decode cX2_find 99 = .ok (.iconst 1, 1) := by decide +kernel
theorem dX2_find_100 : decode cX2_find 100 = .ok (.iadd, 1) := by decide +kernel
theorem dX2_find_101 : decode cX2_find 101 = .ok (.aload_n 0, 1) := by decide +kernel
theorem dX2_find_102 : decode cX2_find 102 = .ok (.getfield 18, 3) := by decide +kernel
theorem dX2_find_105 : decode cX2_find 105 = .ok (.if_icmp .ge 38, 3) := by decide +kernel
theorem dX2_find_108 : decode cX2_find 108 = .ok (.aload_n 0, 1) := by decide +kernel
theorem dX2_find_109 : decode cX2_find 109 = .ok (.aload_n 2, 1) := by decide +kernel
theorem dX2_find_110 : decode cX2_find 110 = .ok (.iload 5, 2) := by decide +kernel
theorem dX2_find_112 : decode cX2_find 112 = .ok (.iconst 1, 1) := by decide +kernel
theorem dX2_find_113 : decode cX2_find 113 = .ok (.isub, 1) := by decide +kernel
theorem dX2_find_114 : decode cX2_find 114 = .ok (.invokevirtual 39, 3) := by decide +kernel
theorem dX2_find_117 : decode cX2_find 117 = .ok (.aload_n 0, 1) := by decide +kernel
theorem dX2_find_118 : decode cX2_find 118 = .ok (.aload_n 2, 1) := by decide +kernel
theorem dX2_find_119 : decode cX2_find 119 = .ok (.iload 5, 2) := by decide +kernel
theorem dX2_find_121 : decode cX2_find 121 = .ok (.invokevirtual 39, 3) := by decide +kernel
theorem dX2_find_124 : decode cX2_find 124 = .ok (.if_icmp .ne 13, 3) := by decide +kernel
theorem dX2_find_127 : decode cX2_find 127 = .ok (.aload_n 0, 1) := by decide +kernel
theorem dX2_find_128 : decode cX2_find 128 = .ok (.dup, 1) := by decide +kernel
theorem dX2_find_129 : decode cX2_find 129 = .ok (.getfield 22, 3) := by decide +kernel
theorem dX2_find_132 : decode cX2_find 132 = .ok (.iconst 1, 1) := by decide +kernel
theorem dX2_find_133 : decode cX2_find 133 = .ok (.iadd, 1) := by decide +kernel
theorem dX2_find_134 : decode cX2_find 134 = .ok (.putfield 22, 3) := by decide +kernel
theorem dX2_find_137 : decode cX2_find 137 = .ok (.iinc 5 1, 3) := by decide +kernel
theorem dX2_find_140 : decode cX2_find 140 = .ok (.goto (-43), 3) := by decide +kernel
theorem dX2_find_143 : decode cX2_find 143 = .ok (.return_, 1) := by decide +kernel
theorem dX2_findStepsLeft_0 : decode cX2_findStepsLeft 0 = .ok (.iconst 0, 1) := by decide +kernel
theorem dX2_findStepsLeft_1 : decode cX2_findStepsLeft 1 = .ok (.istore 4, 2) := by decide +kernel
theorem dX2_findStepsLeft_3 : decode cX2_findStepsLeft 3 = .ok (.iload 4, 2) := by decide +kernel
theorem dX2_findStepsLeft_5 : decode cX2_findStepsLeft 5 = .ok (.bipush 9, 2) := by decide +kernel
theorem dX2_findStepsLeft_7 : decode cX2_findStepsLeft 7 = .ok (.if_icmp .ge 17, 3) := by decide +kernel
theorem dX2_findStepsLeft_10 : decode cX2_findStepsLeft 10 = .ok (.aload_n 0, 1) := by decide +kernel
theorem dX2_findStepsLeft_11 : decode cX2_findStepsLeft 11 = .ok (.getfield 15, 3) := by decide +kernel
theorem dX2_findStepsLeft_14 : decode cX2_findStepsLeft 14 = .ok (.iload 4, 2) := by decide +kernel
theorem dX2_findStepsLeft_16 : decode cX2_findStepsLeft 16 = .ok (.iconst (-1), 1) := by decide +kernel
theorem dX2_findStepsLeft_17 : decode cX2_findStepsLeft 17 = .ok (.iastore, 1) := by decide +kernel
theorem dX2_findStepsLeft_18 : decode cX2_findStepsLeft 18 = .ok (.iinc 4 1, 3) := by decide +kernel
theorem dX2_findStepsLeft_21 : decode cX2_findStepsLeft 21 = .ok (.goto (-18), 3) := by decide +kernel
theorem dX2_findStepsLeft_24 : decode cX2_findStepsLeft 24 = .ok (.aload_n 0, 1) := by decide +kernel
theorem dX2_findStepsLeft_25 : decode cX2_findStepsLeft 25 = .ok (.getfield 15, 3) := by decide +kernel
theorem dX2_findStepsLeft_28 : decode cX2_findStepsLeft 28 = .ok (.iload_n 3, 1) := by decide +kernel
theorem dX2_findStepsLeft_29 : decode cX2_findStepsLeft 29 = .ok (.iconst 0, 1) := by decide +kernel
theorem dX2_findStepsLeft_30 : decode cX2_findStepsLeft 30 = .ok (.iastore, 1) := by decide +kernel
theorem dX2_findStepsLeft_31 : decode cX2_findStepsLeft 31 = .ok (.iconst 0, 1) := by decide +kernel
theorem dX2_findStepsLeft_32 : decode cX2_findStepsLeft 32 = .ok (.istore 4, 2) := by decide +kernel
theorem dX2_findStepsLeft_34 : decode cX2_findStepsLeft 34 = .ok (.iload 4, 2) := by decide +kernel
theorem dX2_findStepsLeft_36 : decode cX2_findStepsLeft 36 = .ok (.aload_n 1, 1) := by decide +kernel
theorem dX2_findStepsLeft_37 : decode cX2_findStepsLeft 37 = .ok (.getfield 43, 3) := by decide +kernel
theorem dX2_findStepsLeft_40 : decode cX2_findStepsLeft 40 = .ok (.if_icmp .ge 47, 3) := by decide +kernel
theorem dX2_findStepsLeft_43 : decode cX2_findStepsLeft 43 = .ok (.iconst 0, 1) := by decide +kernel
theorem dX2_findStepsLeft_44 : decode cX2_findStepsLeft 44 = .ok (.istore 5, 2) := by decide +kernel
theorem dX2_findStepsLeft_46 : decode cX2_findStepsLeft 46 = .ok (.iload 5, 2) := by decide +kernel
theorem dX2_findStepsLeft_48 : decode cX2_findStepsLeft 48 = .ok (.aload_n 1, 1) := by decide +kernel
theorem dX2_findStepsLeft_49 : decode cX2_findStepsLeft 49 = .ok (.getfield 43, 3) := by decide +kernel
theorem dX2_findStepsLeft_52 : decode cX2_findStepsLeft 52 = .ok (.if_icmp .ge 29, 3) := by decide +kernel
theorem dX2_findStepsLeft_55 : decode cX2_findStepsLeft 55 = .ok (.aload_n 0, 1) := by decide +kernel
theorem dX2_findStepsLeft_56 : decode cX2_findStepsLeft 56 = .ok (.getfield 15, 3) := by decide +kernel
theorem dX2_findStepsLeft_59 : decode cX2_findStepsLeft 59 = .ok (.iload 5, 2) := by decide +kernel
theorem dX2_findStepsLeft_61 : decode cX2_findStepsLeft 61 = .ok (.iaload, 1) := by decide +kernel
theorem dX2_findStepsLeft_62 : decode cX2_findStepsLeft 62 = .ok (.iload 4, 2) := by decide +kernel
theorem dX2_findStepsLeft_64 : decode cX2_findStepsLeft 64 = .ok (.if_icmp .ne 11, 3) := by decide +kernel
theorem dX2_findStepsLeft_67 : decode cX2_findStepsLeft 67 = .ok (.aload_n 0, 1) := by decide +kernel
theorem dX2_findStepsLeft_68 : decode cX2_findStepsLeft 68 = .ok (.aload_n 1, 1) := by decide +kernel
theorem dX2_findStepsLeft_69 : decode cX2_findStepsLeft 69 = .ok (.aload_n 2, 1) := by decide +kernel
theorem dX2_findStepsLeft_70 : decode cX2_findStepsLeft 70 = .ok (.iload 5, 2) := by decide +kernel
theorem dX2_findStepsLeft_72 : decode cX2_findStepsLeft 72 = .ok (.invokevirtual 47, 3) := by decide +kernel
theorem dX2_findStepsLeft_75 : decode cX2_findStepsLeft 75 = .ok (.iinc 5 1, 3) := by decide +kernel
theorem dX2_findStepsLeft_78 : decode cX2_findStepsLeft 78 = .ok (.goto (-32), 3) := by decide +kernel
theorem dX2_findStepsLeft_81 : decode cX2_findStepsLeft 81 = .ok (.iinc 4 1, 3) := by decide +kernel
theorem dX2_findStepsLeft_84 : decode cX2_findStepsLeft 84 = .ok (.goto (-50), 3) := by decide +kernel
theorem dX2_findStepsLeft_87 : decode cX2_findStepsLeft 87 = .ok (.return_, 1) := by decide +kernel
theorem dX2_reachNeighbours_0 : decode cX2_reachNeighbours 0 = .ok (.iconst 0, 1) := by decide +kernel
theorem dX2_reachNeighbours_1 : decode cX2_reachNeighbours 1 = .ok (.istore 4, 2) := by decide +kernel
theorem dX2_reachNeighbours_3 : decode cX2_reachNeighbours 3 = .ok (.iload 4, 2) := by decide +kernel
theorem dX2_reachNeighbours_5 : decode cX2_reachNeighbours 5 = .ok (.aload_n 1, 1) := by decide +kernel
theorem dX2_reachNeighbours_6 : decode cX2_reachNeighbours 6 = .ok (.getfield 43, 3) := by decide +kernel
theorem dX2_reachNeighbours_9 : decode cX2_reachNeighbours 9 = .ok (.if_icmp .ge 45, 3) := by decide +kernel
theorem dX2_reachNeighbours_12 : decode cX2_reachNeighbours 12 = .ok (.aload_n 0, 1) := by decide +kernel
theorem dX2_reachNeighbours_13 : decode cX2_reachNeighbours 13 = .ok (.getfield 15, 3) := by decide +kernel
theorem dX2_reachNeighbours_16 : decode cX2_reachNeighbours 16 = .ok (.iload 4, 2) := by decide +kernel
theorem dX2_reachNeighbours_18 : decode cX2_reachNeighbours 18 = .ok (.iaload, 1) := by decide +kernel
theorem dX2_reachNeighbours_19 : decode cX2_reachNeighbours 19 = .ok (.iconst (-1), 1) := by decide +kernel
theorem dX2_reachNeighbours_20 : decode cX2_reachNeighbours 20 = .ok (.if_icmp .ne 28, 3) := by decide +kernel
theorem dX2_reachNeighbours_23 : decode cX2_reachNeighbours 23 = .ok (.aload_n 2, 1) := by decide +kernel
theorem dX2_reachNeighbours_24 : decode cX2_reachNeighbours 24 = .ok (.iload_n 3, 1) := by decide +kernel
theorem dX2_reachNeighbours_25 : decode cX2_reachNeighbours 25 = .ok (.iload 4, 2) := by decide +kernel
theorem dX2_reachNeighbours_27 : decode cX2_reachNeighbours 27 = .ok (.invokevirtual 50, 3) := by decide +kernel
theorem dX2_reachNeighbours_30 : decode cX2_reachNeighbours 30 = .ok (.ifCond .eq 18, 3) := by decide +kernel
theorem dX2_reachNeighbours_33 : decode cX2_reachNeighbours 33 = .ok (.aload_n 0, 1) := by decide +kernel
theorem dX2_reachNeighbours_34 : decode cX2_reachNeighbours 34 = .ok (.getfield 15, 3) := by decide +kernel
theorem dX2_reachNeighbours_37 : decode cX2_reachNeighbours 37 = .ok (.iload 4, 2) := by decide +kernel
theorem dX2_reachNeighbours_39 : decode cX2_reachNeighbours 39 = .ok (.aload_n 0, 1) := by decide +kernel
theorem dX2_reachNeighbours_40 : decode cX2_reachNeighbours 40 = .ok (.getfield 15, 3) := by decide +kernel
theorem dX2_reachNeighbours_43 : decode cX2_reachNeighbours 43 = .ok (.iload_n 3, 1) := by decide +kernel
theorem dX2_reachNeighbours_44 : decode cX2_reachNeighbours 44 = .ok (.iaload, 1) := by decide +kernel
theorem dX2_reachNeighbours_45 : decode cX2_reachNeighbours 45 = .ok (.iconst 1, 1) := by decide +kernel
theorem dX2_reachNeighbours_46 : decode cX2_reachNeighbours 46 = .ok (.iadd, 1) := by decide +kernel
theorem dX2_reachNeighbours_47 : decode cX2_reachNeighbours 47 = .ok (.iastore, 1) := by decide +kernel
theorem dX2_reachNeighbours_48 : decode cX2_reachNeighbours 48 = .ok (.iinc 4 1, 3) := by decide +kernel
theorem dX2_reachNeighbours_51 : decode cX2_reachNeighbours 51 = .ok (.goto (-48), 3) := by decide +kernel
theorem dX2_reachNeighbours_54 : decode cX2_reachNeighbours 54 = .ok (.return_, 1) := by decide +kernel
theorem dX2_addNext_0 : decode cX2_addNext 0 = .ok (.aload_n 0, 1) := by decide +kernel
theorem dX2_addNext_1 : decode cX2_addNext 1 = .ok (.getfield 9, 3) := by decide +kernel
theorem dX2_addNext_4 : decode cX2_addNext 4 = .ok (.aload_n 0, 1) := by decide +kernel
theorem dX2_addNext_5 : decode cX2_addNext 5 = .ok (.getfield 18, 3) := by decide +kernel
theorem dX2_addNext_8 : decode cX2_addNext 8 = .ok (.iconst 1, 1) := by decide +kernel
theorem dX2_addNext_9 : decode cX2_addNext 9 = .ok (.isub, 1) := by decide +kernel
theorem dX2_addNext_10 : decode cX2_addNext 10 = .ok (.iaload, 1) := by decide +kernel
theorem dX2_addNext_11 : decode cX2_addNext 11 = .ok (.istore 4, 2) := by decide +kernel
theorem dX2_addNext_13 : decode cX2_addNext 13 = .ok (.iconst 0, 1) := by decide +kernel
theorem dX2_addNext_14 : decode cX2_addNext 14 = .ok (.istore 5, 2) := by decide +kernel
theorem dX2_addNext_16 : decode cX2_addNext 16 = .ok (.iload 5, 2) := by decide +kernel
theorem dX2_addNext_18 : decode cX2_addNext 18 = .ok (.aload_n 1, 1) := by decide +kernel
theorem dX2_addNext_19 : decode cX2_addNext 19 = .ok (.getfield 43, 3) := by decide +kernel
theorem dX2_addNext_22 : decode cX2_addNext 22 = .ok (.if_icmp .ge 73, 3) := by decide +kernel
theorem dX2_addNext_25 : decode cX2_addNext 25 = .ok (.aload_n 0, 1) := by decide +kernel
theorem dX2_addNext_26 : decode cX2_addNext 26 = .ok (.getfield 15, 3) := by decide +kernel
theorem dX2_addNext_29 : decode cX2_addNext 29 = .ok (.iload 5, 2) := by decide +kernel
theorem dX2_addNext_31 : decode cX2_addNext 31 = .ok (.iaload, 1) := by decide +kernel
theorem dX2_addNext_32 : decode cX2_addNext 32 = .ok (.iload_n 3, 1) := by decide +kernel
theorem dX2_addNext_33 : decode cX2_addNext 33 = .ok (.if_icmp .ne 56, 3) := by decide +kernel
theorem dX2_addNext_36 : decode cX2_addNext 36 = .ok (.aload_n 2, 1) := by decide +kernel
theorem dX2_addNext_37 : decode cX2_addNext 37 = .ok (.iload 4, 2) := by decide +kernel
theorem dX2_addNext_39 : decode cX2_addNext 39 = .ok (.iload 5, 2) := by decide +kernel
theorem dX2_addNext_41 : decode cX2_addNext 41 = .ok (.invokevirtual 50, 3) := by decide +kernel
theorem dX2_addNext_44 : decode cX2_addNext 44 = .ok (.ifCond .eq 45, 3) := by decide +kernel
theorem dX2_addNext_47 : decode cX2_addNext 47 = .ok (.aload_n 0, 1) := by decide +kernel
theorem dX2_addNext_48 : decode cX2_addNext 48 = .ok (.getfield 9, 3) := by decide +kernel
theorem dX2_addNext_51 : decode cX2_addNext 51 = .ok (.aload_n 0, 1) := by decide +kernel
theorem dX2_addNext_52 : decode cX2_addNext 52 = .ok (.getfield 18, 3) := by decide +kernel
theorem dX2_addNext_55 : decode cX2_addNext 55 = .ok (.iload 5, 2) := by decide +kernel
theorem dX2_addNext_57 : decode cX2_addNext 57 = .ok (.iastore, 1) := by decide +kernel
theorem dX2_addNext_58 : decode cX2_addNext 58 = .ok (.aload_n 0, 1) := by decide +kernel
theorem dX2_addNext_59 : decode cX2_addNext 59 = .ok (.dup, 1) := by decide +kernel
theorem dX2_addNext_60 : decode cX2_addNext 60 = .ok (.getfield 18, 3) := by decide +kernel
theorem dX2_addNext_63 : decode cX2_addNext 63 = .ok (.iconst 1, 1) := by decide +kernel
theorem dX2_addNext_64 : decode cX2_addNext 64 = .ok (.iadd, 1) := by decide +kernel
theorem dX2_addNext_65 : decode cX2_addNext 65 = .ok (.putfield 18, 3) := by decide +kernel
theorem dX2_addNext_68 : decode cX2_addNext 68 = .ok (.aload_n 0, 1) := by decide +kernel
theorem dX2_addNext_69 : decode cX2_addNext 69 = .ok (.aload_n 1, 1) := by decide +kernel
theorem dX2_addNext_70 : decode cX2_addNext 70 = .ok (.iload 4, 2) := by decide +kernel
theorem dX2_addNext_72 : decode cX2_addNext 72 = .ok (.iload 5, 2) := by decide +kernel
theorem dX2_addNext_74 : decode cX2_addNext 74 = .ok (.aload_n 0, 1) := by decide +kernel
theorem dX2_addNext_75 : decode cX2_addNext 75 = .ok (.aload_n 2, 1) := by decide +kernel
theorem dX2_addNext_76 : decode cX2_addNext 76 = .ok (.aload_n 0, 1) := by decide +kernel
theorem dX2_addNext_77 : decode cX2_addNext 77 = .ok (.getfield 18, 3) := by decide +kernel
theorem dX2_addNext_80 : decode cX2_addNext 80 = .ok (.iconst 2, 1) := by decide +kernel
theorem dX2_addNext_81 : decode cX2_addNext 81 = .ok (.isub, 1) := by decide +kernel
theorem dX2_addNext_82 : decode cX2_addNext 82 = .ok (.invokevirtual 39, 3) := by decide +kernel
theorem dX2_addNext_85 : decode cX2_addNext 85 = .ok (.invokevirtual 56, 3) := by decide +kernel
theorem dX2_addNext_88 : decode cX2_addNext 88 = .ok (.return_, 1) := by decide +kernel
theorem dX2_addNext_89 : decode cX2_addNext 89 = .ok (.iinc 5 1, 3) := by decide +kernel
theorem dX2_addNext_92 : decode cX2_addNext 92 = .ok (.goto (-76), 3) := by decide +kernel
theorem dX2_addNext_95 : decode cX2_addNext 95 = .ok (.return_, 1) := by decide +kernel
theorem dX2_turn_0 : decode cX2_turn 0 = .ok (.iload_n 2, 1) := by decide +kernel
theorem dX2_turn_1 : decode cX2_turn 1 = .ok (.iload 4, 2) := by decide +kernel
theorem dX2_turn_3 : decode cX2_turn 3 = .ok (.invokestatic 60, 3) := by decide +kernel
theorem dX2_turn_6 : decode cX2_turn 6 = .ok (.istore 5, 2) := by decide +kernel
theorem dX2_turn_8 : decode cX2_turn 8 = .ok (.iload_n 3, 1) := by decide +kernel
theorem dX2_turn_9 : decode cX2_turn 9 = .ok (.iload 4, 2) := by decide +kernel
theorem dX2_turn_11 : decode cX2_turn 11 = .ok (.invokestatic 60, 3) := by decide +kernel
theorem dX2_turn_14 : decode cX2_turn 14 = .ok (.istore 6, 2) := by decide +kernel
theorem dX2_turn_16 : decode cX2_turn 16 = .ok (.aload_n 0, 1) := by decide +kernel
theorem dX2_turn_17 : decode cX2_turn 17 = .ok (.getfield 25, 3) := by decide +kernel
theorem dX2_turn_20 : decode cX2_turn 20 = .ok (.aload_n 1, 1) := by decide +kernel
theorem dX2_turn_21 : decode cX2_turn 21 = .ok (.iload 5, 2) := by decide +kernel
theorem dX2_turn_23 : decode cX2_turn 23 = .ok (.iload 6, 2) := by decide +kernel
theorem dX2_turn_25 : decode cX2_turn 25 = .ok (.invokevirtual 63, 3) := by decide +kernel
theorem dX2_turn_28 : decode cX2_turn 28 = .ok (.i2l, 1) := by decide +kernel
theorem dX2_turn_29 : decode cX2_turn 29 = .ok (.lmul, 1) := by decide +kernel
theorem dX2_turn_30 : decode cX2_turn 30 = .ok (.lstore 7, 2) := by decide +kernel
theorem dX2_turn_32 : decode cX2_turn 32 = .ok (.aload_n 0, 1) := by decide +kernel
theorem dX2_turn_33 : decode cX2_turn 33 = .ok (.getfield 29, 3) := by decide +kernel
theorem dX2_turn_36 : decode cX2_turn 36 = .ok (.aload_n 1, 1) := by decide +kernel
theorem dX2_turn_37 : decode cX2_turn 37 = .ok (.getfield 66, 3) := by decide +kernel
theorem dX2_turn_40 : decode cX2_turn 40 = .ok (.iload 6, 2) := by decide +kernel
theorem dX2_turn_42 : decode cX2_turn 42 = .ok (.iaload, 1) := by decide +kernel
theorem dX2_turn_43 : decode cX2_turn 43 = .ok (.i2l, 1) := by decide +kernel
theorem dX2_turn_44 : decode cX2_turn 44 = .ok (.lmul, 1) := by decide +kernel
theorem dX2_turn_45 : decode cX2_turn 45 = .ok (.lstore 9, 2) := by decide +kernel
theorem dX2_turn_47 : decode cX2_turn 47 = .ok (.lload 7, 2) := by decide +kernel
theorem dX2_turn_49 : decode cX2_turn 49 = .ok (.lload 9, 2) := by decide +kernel
theorem dX2_turn_51 : decode cX2_turn 51 = .ok (.invokestatic 69, 3) := by decide +kernel
theorem dX2_turn_54 : decode cX2_turn 54 = .ok (.lstore 11, 2) := by decide +kernel
theorem dX2_turn_56 : decode cX2_turn 56 = .ok (.aload_n 0, 1) := by decide +kernel
theorem dX2_turn_57 : decode cX2_turn 57 = .ok (.lload 11, 2) := by decide +kernel
theorem dX2_turn_59 : decode cX2_turn 59 = .ok (.lconst 1, 1) := by decide +kernel
theorem dX2_turn_60 : decode cX2_turn 60 = .ok (.lcmp, 1) := by decide +kernel
theorem dX2_turn_61 : decode cX2_turn 61 = .ok (.ifCond .le 11, 3) := by decide +kernel
theorem dX2_turn_64 : decode cX2_turn 64 = .ok (.lload 7, 2) := by decide +kernel
theorem dX2_turn_66 : decode cX2_turn 66 = .ok (.lload 11, 2) := by decide +kernel
theorem dX2_turn_68 : decode cX2_turn 68 = .ok (.ldiv, 1) := by decide +kernel
theorem dX2_turn_69 : decode cX2_turn 69 = .ok (.goto 5, 3) := by decide +kernel
theorem dX2_turn_72 : decode cX2_turn 72 = .ok (.lload 7, 2) := by decide +kernel
theorem dX2_turn_74 : decode cX2_turn 74 = .ok (.putfield 25, 3) := by decide +kernel
theorem dX2_turn_77 : decode cX2_turn 77 = .ok (.aload_n 0, 1) := by decide +kernel
theorem dX2_turn_78 : decode cX2_turn 78 = .ok (.lload 11, 2) := by decide +kernel
theorem dX2_turn_80 : decode cX2_turn 80 = .ok (.lconst 1, 1) := by decide +kernel
theorem dX2_turn_81 : decode cX2_turn 81 = .ok (.lcmp, 1) := by decide +kernel
theorem dX2_turn_82 : decode cX2_turn 82 = .ok (.ifCond .le 11, 3) := by decide +kernel
theorem dX2_turn_85 : decode cX2_turn 85 = .ok (.lload 9, 2) := by decide +kernel
theorem dX2_turn_87 : decode cX2_turn 87 = .ok (.lload 11, 2) := by decide +kernel
theorem dX2_turn_89 : decode cX2_turn 89 = .ok (.ldiv, 1) := by decide +kernel
theorem dX2_turn_90 : decode cX2_turn 90 = .ok (.goto 5, 3) := by decide +kernel
theorem dX2_turn_93 : decode cX2_turn 93 = .ok (.lload 9, 2) := by decide +kernel
theorem dX2_turn_95 : decode cX2_turn 95 = .ok (.putfield 29, 3) := by decide +kernel
theorem dX2_turn_98 : decode cX2_turn 98 = .ok (.return_, 1) := by decide +kernel
theorem dX2_levelFrom_0 : decode cX2_levelFrom 0 = .ok (.aload_n 1, 1) := by decide +kernel
theorem dX2_levelFrom_1 : decode cX2_levelFrom 1 = .ok (.aload_n 0, 1) := by decide +kernel
theorem dX2_levelFrom_2 : decode cX2_levelFrom 2 = .ok (.getfield 9, 3) := by decide +kernel
theorem dX2_levelFrom_5 : decode cX2_levelFrom 5 = .ok (.iload_n 2, 1) := by decide +kernel
theorem dX2_levelFrom_6 : decode cX2_levelFrom 6 = .ok (.iaload, 1) := by decide +kernel
theorem dX2_levelFrom_7 : decode cX2_levelFrom 7 = .ok (.aload_n 0, 1) := by decide +kernel
theorem dX2_levelFrom_8 : decode cX2_levelFrom 8 = .ok (.getfield 9, 3) := by decide +kernel
theorem dX2_levelFrom_11 : decode cX2_levelFrom 11 = .ok (.iload_n 2, 1) := by decide +kernel
theorem dX2_levelFrom_12 : decode cX2_levelFrom 12 = .ok (.iconst 1, 1) := by decide +kernel
theorem dX2_levelFrom_13 : decode cX2_levelFrom 13 = .ok (.iadd, 1) := by decide +kernel
theorem dX2_levelFrom_14 : decode cX2_levelFrom 14 = .ok (.iaload, 1) := by decide +kernel
theorem dX2_levelFrom_15 : decode cX2_levelFrom 15 = .ok (.iconst 0, 1) := by decide +kernel
theorem dX2_levelFrom_16 : decode cX2_levelFrom 16 = .ok (.invokevirtual 73, 3) := by decide +kernel
theorem dX2_levelFrom_19 : decode cX2_levelFrom 19 = .ok (.ifCond .eq 7, 3) := by decide +kernel
theorem dX2_levelFrom_22 : decode cX2_levelFrom 22 = .ok (.iconst 0, 1) := by decide +kernel
theorem dX2_levelFrom_23 : decode cX2_levelFrom 23 = .ok (.goto 4, 3) := by decide +kernel
theorem dX2_levelFrom_26 : decode cX2_levelFrom 26 = .ok (.iconst 1, 1) := by decide +kernel
theorem dX2_levelFrom_27 : decode cX2_levelFrom 27 = .ok (.ireturn, 1) := by decide +kernel
theorem dX3_init_0 : decode cX3_init 0 = .ok (.aload_n 0, 1) := by decide +kernel
theorem dX3_init_1 : decode cX3_init 1 = .ok (.invokespecial 3, 3) := by decide +kernel
theorem dX3_init_4 : decode cX3_init 4 = .ok (.aload_n 0, 1) := by decide +kernel
theorem dX3_init_5 : decode cX3_init 5 = .ok (.bipush 60, 2) := by decide +kernel
theorem dX3_init_7 : decode cX3_init 7 = .ok (.newarray .int, 2) := by decide +kernel
theorem dX3_init_9 : decode cX3_init 9 = .ok (.putfield 9, 3) := by decide +kernel
theorem dX3_init_12 : decode cX3_init 12 = .ok (.aload_n 0, 1) := by decide +kernel
theorem dX3_init_13 : decode cX3_init 13 = .ok (.iconst 0, 1) := by decide +kernel
theorem dX3_init_14 : decode cX3_init 14 = .ok (.putfield 15, 3) := by decide +kernel
theorem dX3_init_17 : decode cX3_init 17 = .ok (.aload_n 0, 1) := by decide +kernel
theorem dX3_init_18 : decode cX3_init 18 = .ok (.bipush 30, 2) := by decide +kernel
theorem dX3_init_20 : decode cX3_init 20 = .ok (.newarray .int, 2) := by decide +kernel
theorem dX3_init_22 : decode cX3_init 22 = .ok (.putfield 19, 3) := by decide +kernel
theorem dX3_init_25 : decode cX3_init 25 = .ok (.aload_n 0, 1) := by decide +kernel
theorem dX3_init_26 : decode cX3_init 26 = .ok (.bipush 90, 2) := by decide +kernel
theorem dX3_init_28 : decode cX3_init 28 = .ok (.newarray .int, 2) := by decide +kernel
theorem dX3_init_30 : decode cX3_init 30 = .ok (.putfield 22, 3) := by decide +kernel
theorem dX3_init_33 : decode cX3_init 33 = .ok (.aload_n 0, 1) := by decide +kernel
theorem dX3_init_34 : decode cX3_init 34 = .ok (.iconst 0, 1) := by decide +kernel
theorem dX3_init_35 : decode cX3_init 35 = .ok (.putfield 25, 3) := by decide +kernel
theorem dX3_init_38 : decode cX3_init 38 = .ok (.aload_n 0, 1) := by decide +kernel
theorem dX3_init_39 : decode cX3_init 39 = .ok (.iconst 0, 1) := by decide +kernel
theorem dX3_init_40 : decode cX3_init 40 = .ok (.putfield 28, 3) := by decide +kernel
theorem dX3_init_43 : decode cX3_init 43 = .ok (.aload_n 0, 1) := by decide +kernel
theorem dX3_init_44 : decode cX3_init 44 = .ok (.iconst 0, 1) := by decide +kernel
theorem dX3_init_45 : decode cX3_init 45 = .ok (.putfield 31, 3) := by decide +kernel
theorem dX3_init_48 : decode cX3_init 48 = .ok (.return_, 1) := by decide +kernel
theorem dX4_init_0 : decode cX4_init 0 = .ok (.aload_n 0, 1) := by decide +kernel
theorem dX4_init_1 : decode cX4_init 1 = .ok (.invokespecial 3, 3) := by decide +kernel
theorem dX4_init_4 : decode cX4_init 4 = .ok (.aload_n 0, 1) := by decide +kernel
theorem dX4_init_5 : decode cX4_init 5 = .ok (.bipush 81, 2) := by decide +kernel
theorem dX4_init_7 : decode cX4_init 7 = .ok (.newarray .int, 2) := by decide +kernel
theorem dX4_init_9 : decode cX4_init 9 = .ok (.putfield 9, 3) := by decide +kernel
theorem dX4_init_12 : decode cX4_init 12 = .ok (.aload_n 0, 1) := by decide +kernel
theorem dX4_init_13 : decode cX4_init 13 = .ok (.bipush 9, 2) := by decide +kernel
theorem dX4_init_15 : decode cX4_init 15 = .ok (.newarray .long, 2) := by decide +kernel
theorem dX4_init_17 : decode cX4_init 17 = .ok (.putfield 15, 3) := by decide +kernel
theorem dX4_init_20 : decode cX4_init 20 = .ok (.aload_n 0, 1) := by decide +kernel
theorem dX4_init_21 : decode cX4_init 21 = .ok (.bipush 9, 2) := by decide +kernel
theorem dX4_init_23 : decode cX4_init 23 = .ok (.newarray .long, 2) := by decide +kernel
theorem dX4_init_25 : decode cX4_init 25 = .ok (.putfield 19, 3) := by decide +kernel
theorem dX4_init_28 : decode cX4_init 28 = .ok (.aload_n 0, 1) := by decide +kernel
theorem dX4_init_29 : decode cX4_init 29 = .ok (.bipush 9, 2) := by decide +kernel
theorem dX4_init_31 : decode cX4_init 31 = .ok (.newarray .boolean, 2) := by decide +kernel
theorem dX4_init_33 : decode cX4_init 33 = .ok (.putfield 22, 3) := by decide +kernel
theorem dX4_init_36 : decode cX4_init 36 = .ok (.aload_n 0, 1) := by decide +kernel
theorem dX4_init_37 : decode cX4_init 37 = .ok (.bipush 9, 2) := by decide +kernel
theorem dX4_init_39 : decode cX4_init 39 = .ok (.newarray .int, 2) := by decide +kernel
theorem dX4_init_41 : decode cX4_init 41 = .ok (.putfield 26, 3) := by decide +kernel
theorem dX4_init_44 : decode cX4_init 44 = .ok (.aload_n 0, 1) := by decide +kernel
theorem dX4_init_45 : decode cX4_init 45 = .ok (.iconst 0, 1) := by decide +kernel
theorem dX4_init_46 : decode cX4_init 46 = .ok (.putfield 29, 3) := by decide +kernel
theorem dX4_init_49 : decode cX4_init 49 = .ok (.aload_n 0, 1) := by decide +kernel
theorem dX4_init_50 : decode cX4_init 50 = .ok (.iconst 0, 1) := by decide +kernel
theorem dX4_init_51 : decode cX4_init 51 = .ok (.putfield 33, 3) := by decide +kernel
theorem dX4_init_54 : decode cX4_init 54 = .ok (.return_, 1) := by decide +kernel
theorem dX4_solve_0 : decode cX4_solve 0 = .ok (.aload_n 0, 1) := by decide +kernel
theorem dX4_solve_1 : decode cX4_solve 1 = .ok (.aload_n 1, 1) := by decide +kernel
theorem dX4_solve_2 : decode cX4_solve 2 = .ok (.invokevirtual 37, 3) := by decide +kernel
theorem dX4_solve_5 : decode cX4_solve 5 = .ok (.aload_n 0, 1) := by decide +kernel
theorem dX4_solve_6 : decode cX4_solve 6 = .ok (.invokevirtual 41, 3) := by decide +kernel
theorem dX4_solve_9 : decode cX4_solve 9 = .ok (.iconst 0, 1) := by decide +kernel
theorem dX4_solve_10 : decode cX4_solve 10 = .ok (.istore_n 2, 1) := by decide +kernel
theorem dX4_solve_11 : decode cX4_solve 11 = .ok (.iload_n 2, 1) := by decide +kernel
theorem dX4_solve_12 : decode cX4_solve 12 = .ok (.bipush 9, 2) := by decide +kernel
theorem dX4_solve_14 : decode cX4_solve 14 = .ok (.if_icmp .ge 16, 3) := by decide +kernel
theorem dX4_solve_17 : decode cX4_solve 17 = .ok (.aload_n 0, 1) := by decide +kernel
theorem dX4_solve_18 : decode cX4_solve 18 = .ok (.getfield 22, 3) := by decide +kernel
theorem dX4_solve_21 : decode cX4_solve 21 = .ok (.iload_n 2, 1) := by decide +kernel
theorem dX4_solve_22 : decode cX4_solve 22 = .ok (.iconst 0, 1) := by decide +kernel
theorem dX4_solve_23 : decode cX4_solve 23 = .ok (.bastore, 1) := by decide +kernel
theorem dX4_solve_24 : decode cX4_solve 24 = .ok (.iinc 2 1, 3) := by decide +kernel
theorem dX4_solve_27 : decode cX4_solve 27 = .ok (.goto (-16), 3) := by decide +kernel
theorem dX4_solve_30 : decode cX4_solve 30 = .ok (.aload_n 0, 1) := by decide +kernel
theorem dX4_solve_31 : decode cX4_solve 31 = .ok (.iconst 0, 1) := by decide +kernel
theorem dX4_solve_32 : decode cX4_solve 32 = .ok (.putfield 29, 3) := by decide +kernel
theorem dX4_solve_35 : decode cX4_solve 35 = .ok (.aload_n 0, 1) := by decide +kernel
theorem dX4_solve_36 : decode cX4_solve 36 = .ok (.iconst 0, 1) := by decide +kernel
theorem dX4_solve_37 : decode cX4_solve 37 = .ok (.putfield 33, 3) := by decide +kernel
theorem dX4_solve_40 : decode cX4_solve 40 = .ok (.aload_n 1, 1) := by decide +kernel
theorem dX4_solve_41 : decode cX4_solve 41 = .ok (.aload_n 1, 1) := by decide +kernel
theorem dX4_solve_42 : decode cX4_solve 42 = .ok (.getfield 44, 3) := by decide +kernel
theorem dX4_solve_45 : decode cX4_solve 45 = .ok (.invokevirtual 49, 3) := by decide +kernel
theorem dX4_solve_48 : decode cX4_solve 48 = .ok (.ifCond .ne 4, 3) := by decide +kernel
theorem dX4_solve_51 : decode cX4_solve 51 = .ok (.return_, 1) := by decide +kernel
theorem dX4_solve_52 : decode cX4_solve 52 = .ok (.aload_n 0, 1) := by decide +kernel
theorem dX4_solve_53 : decode cX4_solve 53 = .ok (.aload_n 1, 1) := by decide +kernel
theorem dX4_solve_54 : decode cX4_solve 54 = .ok (.getfield 44, 3) := by decide +kernel
theorem dX4_solve_57 : decode cX4_solve 57 = .ok (.lconst 1, 1) := by decide +kernel
theorem dX4_solve_58 : decode cX4_solve 58 = .ok (.lconst 1, 1) := by decide +kernel
theorem dX4_solve_59 : decode cX4_solve 59 = .ok (.invokevirtual 53, 3) := by decide +kernel
theorem dX4_solve_62 : decode cX4_solve 62 = .ok (.iconst 0, 1) := by decide +kernel
theorem dX4_solve_63 : decode cX4_solve 63 = .ok (.istore_n 2, 1) := by decide +kernel
theorem dX4_solve_64 : decode cX4_solve 64 = .ok (.iload_n 2, 1) := by decide +kernel
theorem dX4_solve_65 : decode cX4_solve 65 = .ok (.aload_n 0, 1) := by decide +kernel
theorem dX4_solve_66 : decode cX4_solve 66 = .ok (.getfield 29, 3) := by decide +kernel
theorem dX4_solve_69 : decode cX4_solve 69 = .ok (.if_icmp .ge 26, 3) := by decide +kernel
theorem dX4_solve_72 : decode cX4_solve 72 = .ok (.iload_n 2, 1) := by decide +kernel
theorem dX4_solve_73 : decode cX4_solve 73 = .ok (.bipush 9, 2) := by decide +kernel
theorem dX4_solve_75 : decode cX4_solve 75 = .ok (.if_icmp .ge 20, 3) := by decide +kernel
theorem dX4_solve_78 : decode cX4_solve 78 = .ok (.aload_n 0, 1) := by decide +kernel
theorem dX4_solve_79 : decode cX4_solve 79 = .ok (.aload_n 1, 1) := by decide +kernel
theorem dX4_solve_80 : decode cX4_solve 80 = .ok (.aload_n 0, 1) := by decide +kernel
theorem dX4_solve_81 : decode cX4_solve 81 = .ok (.getfield 26, 3) := by decide +kernel
theorem dX4_solve_84 : decode cX4_solve 84 = .ok (.iload_n 2, 1) := by decide +kernel
theorem dX4_solve_85 : decode cX4_solve 85 = .ok (.iaload, 1) := by decide +kernel
theorem dX4_solve_86 : decode cX4_solve 86 = .ok (.invokevirtual 57, 3) := by decide +kernel
theorem dX4_solve_89 : decode cX4_solve 89 = .ok (.iinc 2 1, 3) := by decide +kernel
theorem dX4_solve_92 : decode cX4_solve 92 = .ok (.goto (-28), 3) := by decide +kernel
theorem dX4_solve_95 : decode cX4_solve 95 = .ok (.aload_n 0, 1) := by decide +kernel
theorem dX4_solve_96 : decode cX4_solve 96 = .ok (.getfield 33, 3) := by decide +kernel
theorem dX4_solve_99 : decode cX4_solve 99 = .ok (.ifCond .eq 7, 3) := by decide +kernel
theorem dX4_solve_102 : decode cX4_solve 102 = .ok (.aload_n 0, 1) := by decide +kernel
theorem dX4_solve_103 : decode cX4_solve 103 = .ok (.invokevirtual 41, 3) := by decide +kernel
theorem dX4_solve_106 : decode cX4_solve 106 = .ok (.return_, 1) := by decide +kernel
theorem dX4_findMeshing_0 : decode cX4_findMeshing 0 = .ok (.iconst 0, 1) := by decide +kernel
theorem dX4_findMeshing_1 : decode cX4_findMeshing 1 = .ok (.istore_n 2, 1) := by decide +kernel
theorem dX4_findMeshing_2 : decode cX4_findMeshing 2 = .ok (.iload_n 2, 1) := by decide +kernel
theorem dX4_findMeshing_3 : decode cX4_findMeshing 3 = .ok (.aload_n 1, 1) := by decide +kernel
theorem dX4_findMeshing_4 : decode cX4_findMeshing 4 = .ok (.getfield 61, 3) := by decide +kernel
theorem dX4_findMeshing_7 : decode cX4_findMeshing 7 = .ok (.if_icmp .ge 89, 3) := by decide +kernel
theorem dX4_findMeshing_10 : decode cX4_findMeshing 10 = .ok (.iload_n 2, 1) := by decide +kernel
theorem dX4_findMeshing_11 : decode cX4_findMeshing 11 = .ok (.istore_n 3, 1) := by decide +kernel
theorem dX4_findMeshing_12 : decode cX4_findMeshing 12 = .ok (.iload_n 3, 1) := by decide +kernel
theorem dX4_findMeshing_13 : decode cX4_findMeshing 13 = .ok (.aload_n 1, 1) := by decide +kernel
theorem dX4_findMeshing_14 : decode cX4_findMeshing 14 = .ok (.getfield 61, 3) := by decide +kernel
theorem dX4_findMeshing_17 : decode cX4_findMeshing 17 = .ok (.if_icmp .ge 73, 3) := by decide +kernel
theorem dX4_findMeshing_20 : decode cX4_findMeshing 20 = .ok (.iconst 0, 1) := by decide +kernel
theorem dX4_findMeshing_21 : decode cX4_findMeshing 21 = .ok (.istore 4, 2) := by decide +kernel
theorem dX4_findMeshing_23 : decode cX4_findMeshing 23 = .ok (.iconst 0, 1) := by decide +kernel
theorem dX4_findMeshing_24 : decode cX4_findMeshing 24 = .ok (.istore 5, 2) := by decide +kernel
theorem dX4_findMeshing_26 : decode cX4_findMeshing 26 = .ok (.iload 5, 2) := by decide +kernel
theorem dX4_findMeshing_28 : decode cX4_findMeshing 28 = .ok (.iconst 2, 1) := by decide +kernel
theorem dX4_findMeshing_29 : decode cX4_findMeshing 29 = .ok (.if_icmp .ge 29, 3) := by decide +kernel
theorem dX4_findMeshing_32 : decode cX4_findMeshing 32 = .ok (.aload_n 1, 1) := by decide +kernel
theorem dX4_findMeshing_33 : decode cX4_findMeshing 33 = .ok (.iload_n 2, 1) := by decide +kernel
theorem dX4_findMeshing_34 : decode cX4_findMeshing 34 = .ok (.iload_n 3, 1) := by decide +kernel
theorem dX4_findMeshing_35 : decode cX4_findMeshing 35 = .ok (.iload 5, 2) := by decide +kernel
theorem dX4_findMeshing_37 : decode cX4_findMeshing 37 = .ok (.invokevirtual 64, 3) := by decide +kernel
theorem dX4_findMeshing_40 : decode cX4_findMeshing 40 = .ok (.ifCond .eq 12, 3) := by decide +kernel
theorem dX4_findMeshing_43 : decode cX4_findMeshing 43 = .ok (.iload 4, 2) := by decide +kernel
theorem dX4_findMeshing_45 : decode cX4_findMeshing 45 = .ok (.iload 5, 2) := by decide +kernel
theorem dX4_findMeshing_47 : decode cX4_findMeshing 47 = .ok (.iconst 1, 1) := by decide +kernel
theorem dX4_findMeshing_48 : decode cX4_findMeshing 48 = .ok (.iadd, 1) := by decide +kernel
theorem dX4_findMeshing_49 : decode cX4_findMeshing 49 = .ok (.iadd, 1) := by decide +kernel
theorem dX4_findMeshing_50 : decode cX4_findMeshing 50 = .ok (.istore 4, 2) := by decide +kernel
theorem dX4_findMeshing_52 : decode cX4_findMeshing 52 = .ok (.iinc 5 1, 3) := by decide +kernel
theorem dX4_findMeshing_55 : decode cX4_findMeshing 55 = .ok (.goto (-29), 3) := by decide +kernel
theorem dX4_findMeshing_58 : decode cX4_findMeshing 58 = .ok (.aload_n 0, 1) := by decide +kernel
theorem dX4_findMeshing_59 : decode cX4_findMeshing 59 = .ok (.getfield 9, 3) := by decide +kernel
theorem dX4_findMeshing_62 : decode cX4_findMeshing 62 = .ok (.iload_n 2, 1) := by decide +kernel
theorem dX4_findMeshing_63 : decode cX4_findMeshing 63 = .ok (.bipush 9, 2) := by decide +kernel
theorem dX4_findMeshing_65 : decode cX4_findMeshing 65 = .ok (.imul, 1) := by decide +kernel
theorem dX4_findMeshing_66 : decode cX4_findMeshing 66 = .ok (.iload_n 3, 1) := by decide +kernel
theorem dX4_findMeshing_67 : decode cX4_findMeshing 67 = .ok (.iadd, 1) := by decide +kernel
theorem dX4_findMeshing_68 : decode cX4_findMeshing 68 = .ok (.iload 4, 2) := by decide +kernel
theorem dX4_findMeshing_70 : decode cX4_findMeshing 70 = .ok (.iastore, 1) := by decide +kernel
theorem dX4_findMeshing_71 : decode cX4_findMeshing 71 = .ok (.aload_n 0, 1) := by decide +kernel
theorem dX4_findMeshing_72 : decode cX4_findMeshing 72 = .ok (.getfield 9, 3) := by decide +kernel
theorem dX4_findMeshing_75 : decode cX4_findMeshing 75 = .ok (.iload_n 3, 1) := by decide +kernel
theorem dX4_findMeshing_76 : decode cX4_findMeshing 76 = .ok (.bipush 9, 2) := by decide +kernel
theorem dX4_findMeshing_78 : decode cX4_findMeshing 78 = .ok (.imul, 1) := by decide +kernel
theorem dX4_findMeshing_79 : decode cX4_findMeshing 79 = .ok (.iload_n 2, 1) := by decide +kernel
theorem dX4_findMeshing_80 : decode cX4_findMeshing 80 = .ok (.iadd, 1) := by decide +kernel
theorem dX4_findMeshing_81 : decode cX4_findMeshing 81 = .ok (.iload 4, 2) := by decide +kernel
theorem dX4_findMeshing_83 : decode cX4_findMeshing 83 = .ok (.iastore, 1) := by decide +kernel
theorem dX4_findMeshing_84 : decode cX4_findMeshing 84 = .ok (.iinc 3 1, 3) := by decide +kernel
theorem dX4_findMeshing_87 : decode cX4_findMeshing 87 = .ok (.goto (-75), 3) := by decide +kernel
theorem dX4_findMeshing_90 : decode cX4_findMeshing 90 = .ok (.iinc 2 1, 3) := by decide +kernel
theorem dX4_findMeshing_93 : decode cX4_findMeshing 93 = .ok (.goto (-91), 3) := by decide +kernel
theorem dX4_findMeshing_96 : decode cX4_findMeshing 96 = .ok (.return_, 1) := by decide +kernel
theorem dX4_stop_0 : decode cX4_stop 0 = .ok (.iconst 0, 1) := by decide +kernel
theorem dX4_stop_1 : decode cX4_stop 1 = .ok (.istore_n 1, 1) := by decide +kernel
theorem dX4_stop_2 : decode cX4_stop 2 = .ok (.iload_n 1, 1) := by decide +kernel
theorem dX4_stop_3 : decode cX4_stop 3 = .ok (.bipush 9, 2) := by decide +kernel
theorem dX4_stop_5 : decode cX4_stop 5 = .ok (.if_icmp .ge 23, 3) := by decide +kernel
theorem dX4_stop_8 : decode cX4_stop 8 = .ok (.aload_n 0, 1) := by decide +kernel
theorem dX4_stop_9 : decode cX4_stop 9 = .ok (.getfield 15, 3) := by decide +kernel
theorem dX4_stop_12 : decode cX4_stop 12 = .ok (.iload_n 1, 1) := by decide +kernel
theorem dX4_stop_13 : decode cX4_stop 13 = .ok (.lconst 0, 1) := by decide +kernel
theorem dX4_stop_14 : decode cX4_stop 14 = .ok (.lastore, 1) := by decide +kernel
theorem dX4_stop_15 : decode cX4_stop 15 = .ok (.aload_n 0, 1) := by decide +kernel
theorem dX4_stop_16 : decode cX4_stop 16 = .ok (.getfield 19, 3) := by decide +kernel
theorem dX4_stop_19 : decode cX4_stop 19 = .ok (.iload_n 1, 1) := by decide +kernel
theorem dX4_stop_20 : decode cX4_stop 20 = .ok (.lconst 1, 1) := by decide +kernel
theorem dX4_stop_21 : decode cX4_stop 21 = .ok (.lastore, 1) := by decide +kernel
theorem dX4_stop_22 : decode cX4_stop 22 = .ok (.iinc 1 1, 3) := by decide +kernel
theorem dX4_stop_25 : decode cX4_stop 25 = .ok (.goto (-23), 3) := by decide +kernel
theorem dX4_stop_28 : decode cX4_stop 28 = .ok (.return_, 1) := by decide +kernel
theorem dX4_join_0 : decode cX4_join 0 = .ok (.aload_n 0, 1) := by decide +kernel
theorem dX4_join_1 : decode cX4_join 1 = .ok (.getfield 29, 3) := by decide +kernel
theorem dX4_join_4 : decode cX4_join 4 = .ok (.bipush 9, 2) := by decide +kernel
theorem dX4_join_6 : decode cX4_join 6 = .ok (.if_icmp .lt 4, 3) := by decide +kernel
theorem dX4_join_9 : decode cX4_join 9 = .ok (.return_, 1) := by decide +kernel
theorem dX4_join_10 : decode cX4_join 10 = .ok (.aload_n 0, 1) := by decide +kernel
theorem dX4_join_11 : decode cX4_join 11 = .ok (.getfield 22, 3) := by decide +kernel
theorem dX4_join_14 : decode cX4_join 14 = .ok (.iload_n 1, 1) := by decide +kernel
theorem dX4_join_15 : decode cX4_join 15 = .ok (.iconst 1, 1) := by decide +kernel
theorem dX4_join_16 : decode cX4_join 16 = .ok (.bastore, 1) := by decide +kernel
theorem dX4_join_17 : decode cX4_join 17 = .ok (.aload_n 0, 1) := by decide +kernel
theorem dX4_join_18 : decode cX4_join 18 = .ok (.getfield 15, 3) := by decide +kernel
theorem dX4_join_21 : decode cX4_join 21 = .ok (.iload_n 1, 1) := by decide +kernel
theorem dX4_join_22 : decode cX4_join 22 = .ok (.lload_n 2, 1) := by decide +kernel
theorem dX4_join_23 : decode cX4_join 23 = .ok (.lastore, 1) := by decide +kernel
theorem dX4_join_24 : decode cX4_join 24 = .ok (.aload_n 0, 1) := by decide +kernel
theorem dX4_join_25 : decode cX4_join 25 = .ok (.getfield 19, 3) := by decide +kernel
theorem dX4_join_28 : decode cX4_join 28 = .ok (.iload_n 1, 1) := by decide +kernel
theorem dX4_join_29 : decode cX4_join 29 = .ok (.lload 4, 2) := by decide +kernel
theorem dX4_join_31 : decode cX4_join 31 = .ok (.lastore, 1) := by decide +kernel
theorem dX4_join_32 : decode cX4_join 32 = .ok (.aload_n 0, 1) := by decide +kernel
theorem dX4_join_33 : decode cX4_join 33 = .ok (.getfield 26, 3) := by decide +kernel
theorem dX4_join_36 : decode cX4_join 36 = .ok (.aload_n 0, 1) := by decide +kernel
theorem dX4_join_37 : decode cX4_join 37 = .ok (.getfield 29, 3) := by decide +kernel
theorem dX4_join_40 : decode cX4_join 40 = .ok (.iload_n 1, 1) := by decide +kernel
theorem dX4_join_41 : decode cX4_join 41 = .ok (.iastore, 1) := by decide +kernel
theorem dX4_join_42 : decode cX4_join 42 = .ok (.aload_n 0, 1) := by decide +kernel
theorem dX4_join_43 : decode cX4_join 43 = .ok (.dup, 1) := by decide +kernel
theorem dX4_join_44 : decode cX4_join 44 = .ok (.getfield 29, 3) := by decide +kernel
theorem dX4_join_47 : decode cX4_join 47 = .ok (.iconst 1, 1) := by decide +kernel
theorem dX4_join_48 : decode cX4_join 48 = .ok (.iadd, 1) := by decide +kernel
theorem dX4_join_49 : decode cX4_join 49 = .ok (.putfield 29, 3) := by decide +kernel
theorem dX4_join_52 : decode cX4_join 52 = .ok (.return_, 1) := by decide +kernel
theorem dX4_turnNeighbours_0 : decode cX4_turnNeighbours 0 = .ok (.iconst 0, 1) := by decide +kernel
theorem dX4_turnNeighbours_1 : decode cX4_turnNeighbours 1 = .ok (.istore_n 3, 1) := by decide +kernel
theorem dX4_turnNeighbours_2 : decode cX4_turnNeighbours 2 = .ok (.iload_n 3, 1) := by decide +kernel
theorem dX4_turnNeighbours_3 : decode cX4_turnNeighbours 3 = .ok (.aload_n 1, 1) := by decide +kernel
theorem dX4_turnNeighbours_4 : decode cX4_turnNeighbours 4 = .ok (.getfield 61, 3) := by decide +kernel
theorem dX4_turnNeighbours_7 : decode cX4_turnNeighbours 7 = .ok (.if_icmp .ge 44, 3) := by decide +kernel
theorem dX4_turnNeighbours_10 : decode cX4_turnNeighbours 10 = .ok (.iconst 0, 1) := by decide +kernel
theorem dX4_turnNeighbours_11 : decode cX4_turnNeighbours 11 = .ok (.istore 4, 2) := by decide +kernel
theorem dX4_turnNeighbours_13 : decode cX4_turnNeighbours 13 = .ok (.iload 4, 2) := by decide +kernel
theorem dX4_turnNeighbours_15 : decode cX4_turnNeighbours 15 = .ok (.iconst 2, 1) := by decide +kernel
theorem dX4_turnNeighbours_16 : decode cX4_turnNeighbours 16 = .ok (.if_icmp .ge 29, 3) := by decide +kernel
theorem dX4_turnNeighbours_19 : decode cX4_turnNeighbours 19 = .ok (.aload_n 0, 1) := by decide +kernel
theorem dX4_turnNeighbours_20 : decode cX4_turnNeighbours 20 = .ok (.iload_n 2, 1) := by decide +kernel
theorem dX4_turnNeighbours_21 : decode cX4_turnNeighbours 21 = .ok (.iload_n 3, 1) := by decide +kernel
theorem dX4_turnNeighbours_22 : decode cX4_turnNeighbours 22 = .ok (.iload 4, 2) := by decide +kernel
theorem dX4_turnNeighbours_24 : decode cX4_turnNeighbours 24 = .ok (.invokevirtual 68, 3) := by decide +kernel
theorem dX4_turnNeighbours_27 : decode cX4_turnNeighbours 27 = .ok (.ifCond .eq 12, 3) := by decide +kernel
theorem dX4_turnNeighbours_30 : decode cX4_turnNeighbours 30 = .ok (.aload_n 0, 1) := by decide +kernel
theorem dX4_turnNeighbours_31 : decode cX4_turnNeighbours 31 = .ok (.aload_n 1, 1) := by decide +kernel
theorem dX4_turnNeighbours_32 : decode cX4_turnNeighbours 32 = .ok (.iload_n 2, 1) := by decide +kernel
theorem dX4_turnNeighbours_33 : decode cX4_turnNeighbours 33 = .ok (.iload_n 3, 1) := by decide +kernel
theorem dX4_turnNeighbours_34 : decode cX4_turnNeighbours 34 = .ok (.iload 4, 2) := by decide +kernel
theorem dX4_turnNeighbours_36 : decode cX4_turnNeighbours 36 = .ok (.invokevirtual 71, 3) := by decide +kernel
theorem dX4_turnNeighbours_39 : decode cX4_turnNeighbours 39 = .ok (.iinc 4 1, 3) := by decide +kernel
theorem dX4_turnNeighbours_42 : decode cX4_turnNeighbours 42 = .ok (.goto (-29), 3) := by decide +kernel
theorem dX4_turnNeighbours_45 : decode cX4_turnNeighbours 45 = .ok (.iinc 3 1, 3) := by decide +kernel
theorem dX4_turnNeighbours_48 : decode cX4_turnNeighbours 48 = .ok (.goto (-46), 3) := by decide +kernel
theorem dX4_turnNeighbours_51 : decode cX4_turnNeighbours 51 = .ok (.return_, 1) := by decide +kernel
theorem dX4_turn_0 : decode cX4_turn 0 = .ok (.iload_n 2, 1) := by decide +kernel
theorem dX4_turn_1 : decode cX4_turn 1 = .ok (.iload 4, 2) := by decide +kernel
theorem dX4_turn_3 : decode cX4_turn 3 = .ok (.invokestatic 75, 3) := by decide +kernel
theorem dX4_turn_6 : decode cX4_turn 6 = .ok (.istore 5, 2) := by decide +kernel
theorem dX4_turn_8 : decode cX4_turn 8 = .ok (.iload_n 3, 1) := by decide +kernel
theorem dX4_turn_9 : decode cX4_turn 9 = .ok (.iload 4, 2) := by decide +kernel
theorem dX4_turn_11 : decode cX4_turn 11 = .ok (.invokestatic 75, 3) := by decide +kernel
theorem dX4_turn_14 : decode cX4_turn 14 = .ok (.istore 6, 2) := by decide +kernel
theorem dX4_turn_16 : decode cX4_turn 16 = .ok (.aload_n 0, 1) := by decide +kernel
theorem dX4_turn_17 : decode cX4_turn 17 = .ok (.getfield 15, 3) := by decide +kernel
theorem dX4_turn_20 : decode cX4_turn 20 = .ok (.iload_n 2, 1) := by decide +kernel
theorem dX4_turn_21 : decode cX4_turn 21 = .ok (.laload, 1) := by decide +kernel
theorem dX4_turn_22 : decode cX4_turn 22 = .ok (.aload_n 1, 1) := by decide +kernel
theorem dX4_turn_23 : decode cX4_turn 23 = .ok (.iload 5, 2) := by decide +kernel
theorem dX4_turn_25 : decode cX4_turn 25 = .ok (.iload 6, 2) := by decide +kernel
theorem dX4_turn_27 : decode cX4_turn 27 = .ok (.invokevirtual 79, 3) := by decide +kernel
theorem dX4_turn_30 : decode cX4_turn 30 = .ok (.i2l, 1) := by decide +kernel
theorem dX4_turn_31 : decode cX4_turn 31 = .ok (.lmul, 1) := by decide +kernel
theorem dX4_turn_32 : decode cX4_turn 32 = .ok (.lstore 7, 2) := by decide +kernel
theorem dX4_turn_34 : decode cX4_turn 34 = .ok (.aload_n 0, 1) := by decide +kernel
theorem dX4_turn_35 : decode cX4_turn 35 = .ok (.getfield 19, 3) := by decide +kernel
theorem dX4_turn_38 : decode cX4_turn 38 = .ok (.iload_n 2, 1) := by decide +kernel
theorem dX4_turn_39 : decode cX4_turn 39 = .ok (.laload, 1) := by decide +kernel
theorem dX4_turn_40 : decode cX4_turn 40 = .ok (.aload_n 1, 1) := by decide +kernel
theorem dX4_turn_41 : decode cX4_turn 41 = .ok (.getfield 82, 3) := by decide +kernel
theorem dX4_turn_44 : decode cX4_turn 44 = .ok (.iload 6, 2) := by decide +kernel
theorem dX4_turn_46 : decode cX4_turn 46 = .ok (.iaload, 1) := by decide +kernel
theorem dX4_turn_47 : decode cX4_turn 47 = .ok (.i2l, 1) := by decide +kernel
theorem dX4_turn_48 : decode cX4_turn 48 = .ok (.lmul, 1) := by decide +kernel
theorem dX4_turn_49 : decode cX4_turn 49 = .ok (.lstore 9, 2) := by decide +kernel
theorem dX4_turn_51 : decode cX4_turn 51 = .ok (.lload 7, 2) := by decide +kernel
theorem dX4_turn_53 : decode cX4_turn 53 = .ok (.lload 9, 2) := by decide +kernel
theorem dX4_turn_55 : decode cX4_turn 55 = .ok (.invokestatic 85, 3) := by decide +kernel
theorem dX4_turn_58 : decode cX4_turn 58 = .ok (.lstore 11, 2) := by decide +kernel
theorem dX4_turn_60 : decode cX4_turn 60 = .ok (.lload 11, 2) := by decide +kernel
theorem dX4_turn_62 : decode cX4_turn 62 = .ok (.lconst 1, 1) := by decide +kernel
theorem dX4_turn_63 : decode cX4_turn 63 = .ok (.lcmp, 1) := by decide +kernel
theorem dX4_turn_64 : decode cX4_turn 64 = .ok (.ifCond .le 17, 3) := by decide +kernel
theorem dX4_turn_67 : decode cX4_turn 67 = .ok (.lload 7, 2) := by decide +kernel
theorem dX4_turn_69 : decode cX4_turn 69 = .ok (.lload 11, 2) := by decide +kernel
theorem dX4_turn_71 : decode cX4_turn 71 = .ok (.ldiv, 1) := by decide +kernel
theorem dX4_turn_72 : decode cX4_turn 72 = .ok (.lstore 7, 2) := by decide +kernel
theorem dX4_turn_74 : decode cX4_turn 74 = .ok (.lload 9, 2) := by decide +kernel
theorem dX4_turn_76 : decode cX4_turn 76 = .ok (.lload 11, 2) := by decide +kernel
theorem dX4_turn_78 : decode cX4_turn 78 = .ok (.ldiv, 1) := by decide +kernel
theorem dX4_turn_79 : decode cX4_turn 79 = .ok (.lstore 9, 2) := by decide +kernel
theorem dX4_turn_81 : decode cX4_turn 81 = .ok (.aload_n 0, 1) := by decide +kernel
theorem dX4_turn_82 : decode cX4_turn 82 = .ok (.getfield 22, 3) := by decide +kernel
theorem dX4_turn_85 : decode cX4_turn 85 = .ok (.iload_n 3, 1) := by decide +kernel
theorem dX4_turn_86 : decode cX4_turn 86 = .ok (.baload, 1) := by decide +kernel
theorem dX4_turn_87 : decode cX4_turn 87 = .ok (.ifCond .ne 15, 3) := by decide +kernel
theorem dX4_turn_90 : decode cX4_turn 90 = .ok (.aload_n 0, 1) := by decide +kernel
theorem dX4_turn_91 : decode cX4_turn 91 = .ok (.iload_n 3, 1) := by decide +kernel
theorem dX4_turn_92 : decode cX4_turn 92 = .ok (.lload 7, 2) := by decide +kernel
theorem dX4_turn_94 : decode cX4_turn 94 = .ok (.lload 9, 2) := by decide +kernel
theorem dX4_turn_96 : decode cX4_turn 96 = .ok (.invokevirtual 53, 3) := by decide +kernel
theorem dX4_turn_99 : decode cX4_turn 99 = .ok (.goto 32, 3) := by decide +kernel
theorem dX4_turn_102 : decode cX4_turn 102 = .ok (.aload_n 0, 1) := by decide +kernel
theorem dX4_turn_103 : decode cX4_turn 103 = .ok (.getfield 15, 3) := by decide +kernel
theorem dX4_turn_106 : decode cX4_turn 106 = .ok (.iload_n 3, 1) := by decide +kernel
theorem dX4_turn_107 : decode cX4_turn 107 = .ok (.laload, 1) := by decide +kernel
theorem dX4_turn_108 : decode cX4_turn 108 = .ok (.lload 7, 2) := by decide +kernel
theorem dX4_turn_110 : decode cX4_turn 110 = .ok (.lcmp, 1) := by decide +kernel
theorem dX4_turn_111 : decode cX4_turn 111 = .ok (.ifCond .ne 15, 3) := by decide +kernel
theorem dX4_turn_114 : decode cX4_turn 114 = .ok (.aload_n 0, 1) := by decide +kernel
theorem dX4_turn_115 : decode cX4_turn 115 = .ok (.getfield 19, 3) := by decide +kernel
theorem dX4_turn_118 : decode cX4_turn 118 = .ok (.iload_n 3, 1) := by decide +kernel
theorem dX4_turn_119 : decode cX4_turn 119 = .ok (.laload, 1) := by decide +kernel
theorem dX4_turn_120 : decode cX4_turn 120 = .ok (.lload 9, 2) := by decide +kernel
theorem dX4_turn_122 : decode cX4_turn 122 = .ok (.lcmp, 1) := by decide +kernel
theorem dX4_turn_123 : decode cX4_turn 123 = .ok (.ifCond .eq 8, 3) := by decide +kernel
theorem dX4_turn_126 : decode cX4_turn 126 = .ok (.aload_n 0, 1) := by decide +kernel
theorem dX4_turn_127 : decode cX4_turn 127 = .ok (.iconst 1, 1) := by decide +kernel
theorem dX4_turn_128 : decode cX4_turn 128 = .ok (.putfield 33, 3) := by decide +kernel
theorem dX4_turn_131 : decode cX4_turn 131 = .ok (.return_, 1) := by decide +kernel
theorem dX4_levelsOf_0 : decode cX4_levelsOf 0 = .ok (.aload_n 0, 1) := by decide +kernel
theorem dX4_levelsOf_1 : decode cX4_levelsOf 1 = .ok (.getfield 9, 3) := by decide +kernel
theorem dX4_levelsOf_4 : decode cX4_levelsOf 4 = .ok (.iload_n 1, 1) := by decide +kernel
theorem dX4_levelsOf_5 : decode cX4_levelsOf 5 = .ok (.bipush 9, 2) := by decide +kernel
theorem dX4_levelsOf_7 : decode cX4_levelsOf 7 = .ok (.imul, 1) := by decide +kernel
theorem dX4_levelsOf_8 : decode cX4_levelsOf 8 = .ok (.iload_n 2, 1) := by decide +kernel
theorem dX4_levelsOf_9 : decode cX4_levelsOf 9 = .ok (.iadd, 1) := by decide +kernel
theorem dX4_levelsOf_10 : decode cX4_levelsOf 10 = .ok (.iaload, 1) := by decide +kernel
theorem dX4_levelsOf_11 : decode cX4_levelsOf 11 = .ok (.ireturn, 1) := by decide +kernel
theorem dX4_meshOnLevel_0 : decode cX4_meshOnLevel 0 = .ok (.aload_n 0, 1) := by decide +kernel
theorem dX4_meshOnLevel_1 : decode cX4_meshOnLevel 1 = .ok (.iload_n 1, 1) := by decide +kernel
theorem dX4_meshOnLevel_2 : decode cX4_meshOnLevel 2 = .ok (.iload_n 2, 1) := by decide +kernel
theorem dX4_meshOnLevel_3 : decode cX4_meshOnLevel 3 = .ok (.invokevirtual 89, 3) := by decide +kernel
theorem dX4_meshOnLevel_6 : decode cX4_meshOnLevel 6 = .ok (.iload_n 3, 1) := by decide +kernel
theorem dX4_meshOnLevel_7 : decode cX4_meshOnLevel 7 = .ok (.iconst 1, 1) := by decide +kernel
theorem dX4_meshOnLevel_8 : decode cX4_meshOnLevel 8 = .ok (.iadd, 1) := by decide +kernel
theorem dX4_meshOnLevel_9 : decode cX4_meshOnLevel 9 = .ok (.iand, 1) := by decide +kernel
theorem dX4_meshOnLevel_10 : decode cX4_meshOnLevel 10 = .ok (.ifCond .eq 7, 3) := by decide +kernel
theorem dX4_meshOnLevel_13 : decode cX4_meshOnLevel 13 = .ok (.iconst 1, 1) := by decide +kernel
theorem dX4_meshOnLevel_14 : decode cX4_meshOnLevel 14 = .ok (.goto 4, 3) := by decide +kernel
theorem dX4_meshOnLevel_17 : decode cX4_meshOnLevel 17 = .ok (.iconst 0, 1) := by decide +kernel
theorem dX4_meshOnLevel_18 : decode cX4_meshOnLevel 18 = .ok (.ireturn, 1) := by decide +kernel
theorem dX4_neighbours_0 : decode cX4_neighbours 0 = .ok (.iconst 0, 1) := by decide +kernel
theorem dX4_neighbours_1 : decode cX4_neighbours 1 = .ok (.istore_n 3, 1) := by decide +kernel
theorem dX4_neighbours_2 : decode cX4_neighbours 2 = .ok (.iconst 0, 1) := by decide +kernel
theorem dX4_neighbours_3 : decode cX4_neighbours 3 = .ok (.istore 4, 2) := by decide +kernel
theorem dX4_neighbours_5 : decode cX4_neighbours 5 = .ok (.iload 4, 2) := by decide +kernel
theorem dX4_neighbours_7 : decode cX4_neighbours 7 = .ok (.aload_n 1, 1) := by decide +kernel
theorem dX4_neighbours_8 : decode cX4_neighbours 8 = .ok (.getfield 61, 3) := by decide +kernel
theorem dX4_neighbours_11 : decode cX4_neighbours 11 = .ok (.if_icmp .ge 22, 3) := by decide +kernel
theorem dX4_neighbours_14 : decode cX4_neighbours 14 = .ok (.aload_n 0, 1) := by decide +kernel
theorem dX4_neighbours_15 : decode cX4_neighbours 15 = .ok (.iload_n 2, 1) := by decide +kernel
theorem dX4_neighbours_16 : decode cX4_neighbours 16 = .ok (.iload 4, 2) := by decide +kernel
theorem dX4_neighbours_18 : decode cX4_neighbours 18 = .ok (.invokevirtual 89, 3) := by decide +kernel
theorem dX4_neighbours_21 : decode cX4_neighbours 21 = .ok (.ifCond .eq 6, 3) := by decide +kernel
theorem dX4_neighbours_24 : decode cX4_neighbours 24 = .ok (.iinc 3 1, 3) := by decide +kernel
theorem dX4_neighbours_27 : decode cX4_neighbours 27 = .ok (.iinc 4 1, 3) := by decide +kernel
theorem dX4_neighbours_30 : decode cX4_neighbours 30 = .ok (.goto (-25), 3) := by decide +kernel
theorem dX4_neighbours_33 : decode cX4_neighbours 33 = .ok (.iload_n 3, 1) := by decide +kernel
theorem dX4_neighbours_34 : decode cX4_neighbours 34 = .ok (.ireturn, 1) := by decide +kernel
theorem dX4_meshingPairs_0 : decode cX4_meshingPairs 0 = .ok (.iconst 0, 1) := by decide +kernel
theorem dX4_meshingPairs_1 : decode cX4_meshingPairs 1 = .ok (.istore_n 2, 1) := by decide +kernel
theorem dX4_meshingPairs_2 : decode cX4_meshingPairs 2 = .ok (.iconst 0, 1) := by decide +kernel
theorem dX4_meshingPairs_3 : decode cX4_meshingPairs 3 = .ok (.istore_n 3, 1) := by decide +kernel
theorem dX4_meshingPairs_4 : decode cX4_meshingPairs 4 = .ok (.iload_n 3, 1) := by decide +kernel
theorem dX4_meshingPairs_5 : decode cX4_meshingPairs 5 = .ok (.aload_n 1, 1) := by decide +kernel
theorem dX4_meshingPairs_6 : decode cX4_meshingPairs 6 = .ok (.getfield 61, 3) := by decide +kernel
theorem dX4_meshingPairs_9 : decode cX4_meshingPairs 9 = .ok (.if_icmp .ge 18, 3) := by decide +kernel
theorem dX4_meshingPairs_12 : decode cX4_meshingPairs 12 = .ok (.iload_n 2, 1) := by decide +kernel
theorem dX4_meshingPairs_13 : decode cX4_meshingPairs 13 = .ok (.aload_n 0, 1) := by decide +kernel
theorem dX4_meshingPairs_14 : decode cX4_meshingPairs 14 = .ok (.aload_n 1, 1) := by decide +kernel
theorem dX4_meshingPairs_15 : decode cX4_meshingPairs 15 = .ok (.iload_n 3, 1) := by decide +kernel
theorem dX4_meshingPairs_16 : decode cX4_meshingPairs 16 = .ok (.invokevirtual 92, 3) := by decide +kernel
theorem dX4_meshingPairs_19 : decode cX4_meshingPairs 19 = .ok (.iadd, 1) := by decide +kernel
theorem dX4_meshingPairs_20 : decode cX4_meshingPairs 20 = .ok (.istore_n 2, 1) := by decide +kernel
theorem dX4_meshingPairs_21 : decode cX4_meshingPairs 21 = .ok (.iinc 3 1, 3) := by decide +kernel
theorem dX4_meshingPairs_24 : decode cX4_meshingPairs 24 = .ok (.goto (-20), 3) := by decide +kernel
theorem dX4_meshingPairs_27 : decode cX4_meshingPairs 27 = .ok (.iload_n 2, 1) := by decide +kernel
theorem dX4_meshingPairs_28 : decode cX4_meshingPairs 28 = .ok (.iconst 2, 1) := by decide +kernel
theorem dX4_meshingPairs_29 : decode cX4_meshingPairs 29 = .ok (.idiv, 1) := by decide +kernel
theorem dX4_meshingPairs_30 : decode cX4_meshingPairs 30 = .ok (.ireturn, 1) := by decide +kernel
theorem dX4_direction_0 : decode cX4_direction 0 = .ok (.aload_n 0, 1) := by decide +kernel
theorem dX4_direction_1 : decode cX4_direction 1 = .ok (.getfield 15, 3) := by decide +kernel
theorem dX4_direction_4 : decode cX4_direction 4 = .ok (.iload_n 1, 1) := by decide +kernel
theorem dX4_direction_5 : decode cX4_direction 5 = .ok (.laload, 1) := by decide +kernel
theorem dX4_direction_6 : decode cX4_direction 6 = .ok (.lconst 0, 1) := by decide +kernel
theorem dX4_direction_7 : decode cX4_direction 7 = .ok (.lcmp, 1) := by decide +kernel
theorem dX4_direction_8 : decode cX4_direction 8 = .ok (.ifCond .ne 5, 3) := by decide +kernel
theorem dX4_direction_11 : decode cX4_direction 11 = .ok (.iconst 0, 1) := by decide +kernel
theorem dX4_direction_12 : decode cX4_direction 12 = .ok (.ireturn, 1) := by decide +kernel
theorem dX4_direction_13 : decode cX4_direction 13 = .ok (.aload_n 0, 1) := by decide +kernel
theorem dX4_direction_14 : decode cX4_direction 14 = .ok (.getfield 15, 3) := by decide +kernel
theorem dX4_direction_17 : decode cX4_direction 17 = .ok (.iload_n 1, 1) := by decide +kernel
theorem dX4_direction_18 : decode cX4_direction 18 = .ok (.laload, 1) := by decide +kernel
theorem dX4_direction_19 : decode cX4_direction 19 = .ok (.lconst 0, 1) := by decide +kernel
theorem dX4_direction_20 : decode cX4_direction 20 = .ok (.lcmp, 1) := by decide +kernel
theorem dX4_direction_21 : decode cX4_direction 21 = .ok (.ifCond .le 7, 3) := by decide +kernel
theorem dX4_direction_24 : decode cX4_direction 24 = .ok (.iconst 1, 1) := by decide +kernel
theorem dX4_direction_25 : decode cX4_direction 25 = .ok (.goto 4, 3) := by decide +kernel
theorem dX4_direction_28 : decode cX4_direction 28 = .ok (.iconst 2, 1) := by decide +kernel
theorem dX4_direction_29 : decode cX4_direction 29 = .ok (.ireturn, 1) := by decide +kernel
theorem dX4_turningPegs_0 : decode cX4_turningPegs 0 = .ok (.iconst 0, 1) := by decide +kernel
theorem dX4_turningPegs_1 : decode cX4_turningPegs 1 = .ok (.istore_n 2, 1) := by decide +kernel
theorem dX4_turningPegs_2 : decode cX4_turningPegs 2 = .ok (.iconst 0, 1) := by decide +kernel
theorem dX4_turningPegs_3 : decode cX4_turningPegs 3 = .ok (.istore_n 3, 1) := by decide +kernel
theorem dX4_turningPegs_4 : decode cX4_turningPegs 4 = .ok (.iload_n 3, 1) := by decide +kernel
theorem dX4_turningPegs_5 : decode cX4_turningPegs 5 = .ok (.aload_n 1, 1) := by decide +kernel
theorem dX4_turningPegs_6 : decode cX4_turningPegs 6 = .ok (.getfield 61, 3) := by decide +kernel
theorem dX4_turningPegs_9 : decode cX4_turningPegs 9 = .ok (.if_icmp .ge 20, 3) := by decide +kernel
theorem dX4_turningPegs_12 : decode cX4_turningPegs 12 = .ok (.aload_n 0, 1) := by decide +kernel
theorem dX4_turningPegs_13 : decode cX4_turningPegs 13 = .ok (.iload_n 3, 1) := by decide +kernel
theorem dX4_turningPegs_14 : decode cX4_turningPegs 14 = .ok (.invokevirtual 96, 3) := by decide +kernel
theorem dX4_turningPegs_17 : decode cX4_turningPegs 17 = .ok (.ifCond .eq 6, 3) := by decide +kernel
theorem dX4_turningPegs_20 : decode cX4_turningPegs 20 = .ok (.iinc 2 1, 3) := by decide +kernel
theorem dX4_turningPegs_23 : decode cX4_turningPegs 23 = .ok (.iinc 3 1, 3) := by decide +kernel
theorem dX4_turningPegs_26 : decode cX4_turningPegs 26 = .ok (.goto (-22), 3) := by decide +kernel
theorem dX4_turningPegs_29 : decode cX4_turningPegs 29 = .ok (.iload_n 2, 1) := by decide +kernel
theorem dX4_turningPegs_30 : decode cX4_turningPegs 30 = .ok (.ireturn, 1) := by decide +kernel
theorem dX4_reachesGoal_0 : decode cX4_reachesGoal 0 = .ok (.aload_n 1, 1) := by decide +kernel
theorem dX4_reachesGoal_1 : decode cX4_reachesGoal 1 = .ok (.getfield 100, 3) := by decide +kernel
theorem dX4_reachesGoal_4 : decode cX4_reachesGoal 4 = .ok (.istore_n 2, 1) := by decide +kernel
theorem dX4_reachesGoal_5 : decode cX4_reachesGoal 5 = .ok (.aload_n 1, 1) := by decide +kernel
theorem dX4_reachesGoal_6 : decode cX4_reachesGoal 6 = .ok (.iload_n 2, 1) := by decide +kernel
theorem dX4_reachesGoal_7 : decode cX4_reachesGoal 7 = .ok (.invokevirtual 49, 3) := by decide +kernel
theorem dX4_reachesGoal_10 : decode cX4_reachesGoal 10 = .ok (.ifCond .eq 37, 3) := by decide +kernel
theorem dX4_reachesGoal_13 : decode cX4_reachesGoal 13 = .ok (.aload_n 0, 1) := by decide +kernel
theorem dX4_reachesGoal_14 : decode cX4_reachesGoal 14 = .ok (.getfield 15, 3) := by decide +kernel
theorem dX4_reachesGoal_17 : decode cX4_reachesGoal 17 = .ok (.iload_n 2, 1) := by decide +kernel
theorem dX4_reachesGoal_18 : decode cX4_reachesGoal 18 = .ok (.laload, 1) := by decide +kernel
theorem dX4_reachesGoal_19 : decode cX4_reachesGoal 19 = .ok (.aload_n 1, 1) := by decide +kernel
theorem dX4_reachesGoal_20 : decode cX4_reachesGoal 20 = .ok (.getfield 103, 3) := by decide +kernel
theorem dX4_reachesGoal_23 : decode cX4_reachesGoal 23 = .ok (.i2l, 1) := by decide +kernel
theorem dX4_reachesGoal_24 : decode cX4_reachesGoal 24 = .ok (.lcmp, 1) := by decide +kernel
theorem dX4_reachesGoal_25 : decode cX4_reachesGoal 25 = .ok (.ifCond .ne 22, 3) := by decide +kernel
theorem dX4_reachesGoal_28 : decode cX4_reachesGoal 28 = .ok (.aload_n 0, 1) := by decide +kernel
theorem dX4_reachesGoal_29 : decode cX4_reachesGoal 29 = .ok (.getfield 19, 3) := by decide +kernel
theorem dX4_reachesGoal_32 : decode cX4_reachesGoal 32 = .ok (.iload_n 2, 1) := by decide +kernel
theorem dX4_reachesGoal_33 : decode cX4_reachesGoal 33 = .ok (.laload, 1) := by decide +kernel
theorem dX4_reachesGoal_34 : decode cX4_reachesGoal 34 = .ok (.aload_n 1, 1) := by decide +kernel
theorem dX4_reachesGoal_35 : decode cX4_reachesGoal 35 = .ok (.getfield 106, 3) := by decide +kernel
theorem dX4_reachesGoal_38 : decode cX4_reachesGoal 38 = .ok (.i2l, 1) := by decide +kernel
theorem dX4_reachesGoal_39 : decode cX4_reachesGoal 39 = .ok (.lcmp, 1) := by decide +kernel
theorem dX4_reachesGoal_40 : decode cX4_reachesGoal 40 = .ok (.ifCond .ne 7, 3) := by decide +kernel
theorem dX4_reachesGoal_43 : decode cX4_reachesGoal 43 = .ok (.iconst 1, 1) := by decide +kernel
theorem dX4_reachesGoal_44 : decode cX4_reachesGoal 44 = .ok (.goto 4, 3) := by decide +kernel
theorem dX4_reachesGoal_47 : decode cX4_reachesGoal 47 = .ok (.iconst 0, 1) := by decide +kernel
theorem dX4_reachesGoal_48 : decode cX4_reachesGoal 48 = .ok (.ireturn, 1) := by decide +kernel
theorem dX4_turnsOfMarks_0 : decode cX4_turnsOfMarks 0 = .ok (.aload_n 0, 1) := by decide +kernel
theorem dX4_turnsOfMarks_1 : decode cX4_turnsOfMarks 1 = .ok (.aload_n 1, 1) := by decide +kernel
theorem dX4_turnsOfMarks_2 : decode cX4_turnsOfMarks 2 = .ok (.invokevirtual 109, 3) := by decide +kernel
theorem dX4_turnsOfMarks_5 : decode cX4_turnsOfMarks 5 = .ok (.ifCond .ne 5, 3) := by decide +kernel
theorem dX4_turnsOfMarks_8 : decode cX4_turnsOfMarks 8 = .ok (.lconst 0, 1) := by decide +kernel
theorem dX4_turnsOfMarks_9 : decode cX4_turnsOfMarks 9 = .ok (.lreturn, 1) := by decide +kernel
theorem dX4_turnsOfMarks_10 : decode cX4_turnsOfMarks 10 = .ok (.lconst 1, 1) := by decide +kernel
theorem dX4_turnsOfMarks_11 : decode cX4_turnsOfMarks 11 = .ok (.lstore_n 2, 1) := by decide +kernel
theorem dX4_turnsOfMarks_12 : decode cX4_turnsOfMarks 12 = .ok (.iconst 0, 1) := by decide +kernel
theorem dX4_turnsOfMarks_13 : decode cX4_turnsOfMarks 13 = .ok (.istore 4, 2) := by decide +kernel
theorem dX4_turnsOfMarks_15 : decode cX4_turnsOfMarks 15 = .ok (.iload 4, 2) := by decide +kernel
theorem dX4_turnsOfMarks_17 : decode cX4_turnsOfMarks 17 = .ok (.aload_n 1, 1) := by decide +kernel
theorem dX4_turnsOfMarks_18 : decode cX4_turnsOfMarks 18 = .ok (.getfield 61, 3) := by decide +kernel
theorem dX4_turnsOfMarks_21 : decode cX4_turnsOfMarks 21 = .ok (.if_icmp .ge 42, 3) := by decide +kernel
theorem dX4_turnsOfMarks_24 : decode cX4_turnsOfMarks 24 = .ok (.lload_n 2, 1) := by decide +kernel
theorem dX4_turnsOfMarks_25 : decode cX4_turnsOfMarks 25 = .ok (.aload_n 0, 1) := by decide +kernel
theorem dX4_turnsOfMarks_26 : decode cX4_turnsOfMarks 26 = .ok (.getfield 19, 3) := by decide +kernel
theorem dX4_turnsOfMarks_29 : decode cX4_turnsOfMarks 29 = .ok (.iload 4, 2) := by decide +kernel
theorem dX4_turnsOfMarks_31 : decode cX4_turnsOfMarks 31 = .ok (.laload, 1) := by decide +kernel
theorem dX4_turnsOfMarks_32 : decode cX4_turnsOfMarks 32 = .ok (.invokestatic 85, 3) := by decide +kernel
theorem dX4_turnsOfMarks_35 : decode cX4_turnsOfMarks 35 = .ok (.lstore 5, 2) := by decide +kernel
theorem dX4_turnsOfMarks_37 : decode cX4_turnsOfMarks 37 = .ok (.lload 5, 2) := by decide +kernel
theorem dX4_turnsOfMarks_39 : decode cX4_turnsOfMarks 39 = .ok (.lconst 0, 1) := by decide +kernel
theorem dX4_turnsOfMarks_40 : decode cX4_turnsOfMarks 40 = .ok (.lcmp, 1) := by decide +kernel
theorem dX4_turnsOfMarks_41 : decode cX4_turnsOfMarks 41 = .ok (.ifCond .le 16, 3) := by decide +kernel
theorem dX4_turnsOfMarks_44 : decode cX4_turnsOfMarks 44 = .ok (.lload_n 2, 1) := by decide +kernel
theorem dX4_turnsOfMarks_45 : decode cX4_turnsOfMarks 45 = .ok (.lload 5, 2) := by decide +kernel
theorem dX4_turnsOfMarks_47 : decode cX4_turnsOfMarks 47 = .ok (.ldiv, 1) := by decide +kernel
theorem dX4_turnsOfMarks_48 : decode cX4_turnsOfMarks 48 = .ok (.aload_n 0, 1) := by decide +kernel
theorem dX4_turnsOfMarks_49 : decode cX4_turnsOfMarks 49 = .ok (.getfield 19, 3) := by decide +kernel
theorem dX4_turnsOfMarks_52 : decode cX4_turnsOfMarks 52 = .ok (.iload 4, 2) := by decide +kernel
theorem dX4_turnsOfMarks_54 : decode cX4_turnsOfMarks 54 = .ok (.laload, 1) := by decide +kernel
theorem dX4_turnsOfMarks_55 : decode cX4_turnsOfMarks 55 = .ok (.lmul, 1) := by decide +kernel
theorem dX4_turnsOfMarks_56 : decode cX4_turnsOfMarks 56 = .ok (.lstore_n 2, 1) := by decide +kernel
theorem dX4_turnsOfMarks_57 : decode cX4_turnsOfMarks 57 = .ok (.iinc 4 1, 3) := by decide +kernel
theorem dX4_turnsOfMarks_60 : decode cX4_turnsOfMarks 60 = .ok (.goto (-45), 3) := by decide +kernel
theorem dX4_turnsOfMarks_63 : decode cX4_turnsOfMarks 63 = .ok (.lload_n 2, 1) := by decide +kernel
theorem dX4_turnsOfMarks_64 : decode cX4_turnsOfMarks 64 = .ok (.lreturn, 1) := by decide +kernel
theorem dX5_init_0 : decode cX5_init 0 = .ok (.aload_n 0, 1) := by decide +kernel
theorem dX5_init_1 : decode cX5_init 1 = .ok (.invokespecial 3, 3) := by decide +kernel
theorem dX5_init_4 : decode cX5_init 4 = .ok (.aload_n 0, 1) := by decide +kernel
theorem dX5_init_5 : decode cX5_init 5 = .ok (.new 9, 3) := by decide +kernel
theorem dX5_init_8 : decode cX5_init 8 = .ok (.dup, 1) := by decide +kernel
theorem dX5_init_9 : decode cX5_init 9 = .ok (.invokespecial 11, 3) := by decide +kernel
theorem dX5_init_12 : decode cX5_init 12 = .ok (.putfield 12, 3) := by decide +kernel
theorem dX5_init_15 : decode cX5_init 15 = .ok (.aload_n 0, 1) := by decide +kernel
theorem dX5_init_16 : decode cX5_init 16 = .ok (.new 16, 3) := by decide +kernel
theorem dX5_init_19 : decode cX5_init 19 = .ok (.dup, 1) := by decide +kernel
theorem dX5_init_20 : decode cX5_init 20 = .ok (.invokespecial 18, 3) := by decide +kernel
theorem dX5_init_23 : decode cX5_init 23 = .ok (.putfield 19, 3) := by decide +kernel
theorem dX5_init_26 : decode cX5_init 26 = .ok (.aload_n 0, 1) := by decide +kernel
theorem dX5_init_27 : decode cX5_init 27 = .ok (.new 9, 3) := by decide +kernel
theorem dX5_init_30 : decode cX5_init 30 = .ok (.dup, 1) := by decide +kernel
theorem dX5_init_31 : decode cX5_init 31 = .ok (.invokespecial 11, 3) := by decide +kernel
theorem dX5_init_34 : decode cX5_init 34 = .ok (.putfield 23, 3) := by decide +kernel
theorem dX5_init_37 : decode cX5_init 37 = .ok (.aload_n 0, 1) := by decide +kernel
theorem dX5_init_38 : decode cX5_init 38 = .ok (.new 16, 3) := by decide +kernel
theorem dX5_init_41 : decode cX5_init 41 = .ok (.dup, 1) := by decide +kernel
theorem dX5_init_42 : decode cX5_init 42 = .ok (.invokespecial 18, 3) := by decide +kernel
theorem dX5_init_45 : decode cX5_init 45 = .ok (.putfield 26, 3) := by decide +kernel
theorem dX5_init_48 : decode cX5_init 48 = .ok (.aload_n 0, 1) := by decide +kernel
theorem dX5_init_49 : decode cX5_init 49 = .ok (.new 29, 3) := by decide +kernel
theorem dX5_init_52 : decode cX5_init 52 = .ok (.dup, 1) := by decide +kernel
theorem dX5_init_53 : decode cX5_init 53 = .ok (.invokespecial 31, 3) := by decide +kernel
theorem dX5_init_56 : decode cX5_init 56 = .ok (.putfield 32, 3) := by decide +kernel
theorem dX5_init_59 : decode cX5_init 59 = .ok (.aload_n 0, 1) := by decide +kernel
theorem dX5_init_60 : decode cX5_init 60 = .ok (.new 36, 3) := by decide +kernel
theorem dX5_init_63 : decode cX5_init 63 = .ok (.dup, 1) := by decide +kernel
theorem dX5_init_64 : decode cX5_init 64 = .ok (.invokespecial 38, 3) := by decide +kernel
theorem dX5_init_67 : decode cX5_init 67 = .ok (.putfield 39, 3) := by decide +kernel
theorem dX5_init_70 : decode cX5_init 70 = .ok (.aload_n 0, 1) := by decide +kernel
theorem dX5_init_71 : decode cX5_init 71 = .ok (.new 43, 3) := by decide +kernel
theorem dX5_init_74 : decode cX5_init 74 = .ok (.dup, 1) := by decide +kernel
theorem dX5_init_75 : decode cX5_init 75 = .ok (.invokespecial 45, 3) := by decide +kernel
theorem dX5_init_78 : decode cX5_init 78 = .ok (.putfield 46, 3) := by decide +kernel
theorem dX5_init_81 : decode cX5_init 81 = .ok (.return_, 1) := by decide +kernel
theorem dX5_addPeg_0 : decode cX5_addPeg 0 = .ok (.iload_n 1, 1) := by decide +kernel
theorem dX5_addPeg_1 : decode cX5_addPeg 1 = .ok (.iload_n 2, 1) := by decide +kernel
theorem dX5_addPeg_2 : decode cX5_addPeg 2 = .ok (.invokestatic 50, 3) := by decide +kernel
theorem dX5_addPeg_5 : decode cX5_addPeg 5 = .ok (.aload_n 0, 1) := by decide +kernel
theorem dX5_addPeg_6 : decode cX5_addPeg 6 = .ok (.invokevirtual 54, 3) := by decide +kernel
theorem dX5_addPeg_9 : decode cX5_addPeg 9 = .ok (.aload_n 0, 1) := by decide +kernel
theorem dX5_addPeg_10 : decode cX5_addPeg 10 = .ok (.getfield 23, 3) := by decide +kernel
theorem dX5_addPeg_13 : decode cX5_addPeg 13 = .ok (.iload_n 1, 1) := by decide +kernel
theorem dX5_addPeg_14 : decode cX5_addPeg 14 = .ok (.iload_n 2, 1) := by decide +kernel
theorem dX5_addPeg_15 : decode cX5_addPeg 15 = .ok (.invokevirtual 57, 3) := by decide +kernel
theorem dX5_addPeg_18 : decode cX5_addPeg 18 = .ok (.ifCond .ne 13, 3) := by decide +kernel
theorem dX5_addPeg_21 : decode cX5_addPeg 21 = .ok (.new 61, 3) := by decide +kernel
theorem dX5_addPeg_24 : decode cX5_addPeg 24 = .ok (.dup, 1) := by decide +kernel
theorem dX5_addPeg_25 : decode cX5_addPeg 25 = .ok (.ldc 63, 2) := by decide +kernel
theorem dX5_addPeg_27 : decode cX5_addPeg 27 = .ok (.invokespecial 65, 3) := by decide +kernel
theorem dX5_addPeg_30 : decode cX5_addPeg 30 = .ok (.athrow, 1) := by decide +kernel
theorem dX5_addPeg_31 : decode cX5_addPeg 31 = .ok (.aload_n 0, 1) := by decide +kernel
theorem dX5_addPeg_32 : decode cX5_addPeg 32 = .ok (.invokevirtual 68, 3) := by decide +kernel
theorem dX5_addPeg_35 : decode cX5_addPeg 35 = .ok (.aload_n 0, 1) := by decide +kernel
theorem dX5_addPeg_36 : decode cX5_addPeg 36 = .ok (.getfield 12, 3) := by decide +kernel
theorem dX5_addPeg_39 : decode cX5_addPeg 39 = .ok (.getfield 71, 3) := by decide +kernel
theorem dX5_addPeg_42 : decode cX5_addPeg 42 = .ok (.iconst 1, 1) := by decide +kernel
theorem dX5_addPeg_43 : decode cX5_addPeg 43 = .ok (.isub, 1) := by decide +kernel
theorem dX5_addPeg_44 : decode cX5_addPeg 44 = .ok (.ireturn, 1) := by decide +kernel
theorem dX5_putGear_0 : decode cX5_putGear 0 = .ok (.aload_n 0, 1) := by decide +kernel
theorem dX5_putGear_1 : decode cX5_putGear 1 = .ok (.iload_n 1, 1) := by decide +kernel
theorem dX5_putGear_2 : decode cX5_putGear 2 = .ok (.invokevirtual 75, 3) := by decide +kernel
theorem dX5_putGear_5 : decode cX5_putGear 5 = .ok (.iload_n 2, 1) := by decide +kernel
theorem dX5_putGear_6 : decode cX5_putGear 6 = .ok (.invokestatic 79, 3) := by decide +kernel
theorem dX5_putGear_9 : decode cX5_putGear 9 = .ok (.ifCond .eq 14, 3) := by decide +kernel
theorem dX5_putGear_12 : decode cX5_putGear 12 = .ok (.iload_n 3, 1) := by decide +kernel
theorem dX5_putGear_13 : decode cX5_putGear 13 = .ok (.invokestatic 83, 3) := by decide +kernel
theorem dX5_putGear_16 : decode cX5_putGear 16 = .ok (.ifCond .eq 7, 3) := by decide +kernel
theorem dX5_putGear_19 : decode cX5_putGear 19 = .ok (.iconst 1, 1) := by decide +kernel
theorem dX5_putGear_20 : decode cX5_putGear 20 = .ok (.goto 4, 3) := by decide +kernel
theorem dX5_putGear_23 : decode cX5_putGear 23 = .ok (.iconst 0, 1) := by decide +kernel
theorem dX5_putGear_24 : decode cX5_putGear 24 = .ok (.invokestatic 86, 3) := by decide +kernel
theorem dX5_putGear_27 : decode cX5_putGear 27 = .ok (.aload_n 0, 1) := by decide +kernel
theorem dX5_putGear_28 : decode cX5_putGear 28 = .ok (.iload_n 1, 1) := by decide +kernel
theorem dX5_putGear_29 : decode cX5_putGear 29 = .ok (.iload_n 2, 1) := by decide +kernel
theorem dX5_putGear_30 : decode cX5_putGear 30 = .ok (.iload_n 3, 1) := by decide +kernel
theorem dX5_putGear_31 : decode cX5_putGear 31 = .ok (.invokestatic 90, 3) := by decide +kernel
theorem dX5_putGear_34 : decode cX5_putGear 34 = .ok (.iload_n 3, 1) := by decide +kernel
theorem dX5_putGear_35 : decode cX5_putGear 35 = .ok (.invokevirtual 94, 3) := by decide +kernel
theorem dX5_putGear_38 : decode cX5_putGear 38 = .ok (.ireturn, 1) := by decide +kernel
theorem dX5_drive_0 : decode cX5_drive 0 = .ok (.aload_n 0, 1) := by decide +kernel
theorem dX5_drive_1 : decode cX5_drive 1 = .ok (.iload_n 1, 1) := by decide +kernel
theorem dX5_drive_2 : decode cX5_drive 2 = .ok (.invokevirtual 75, 3) := by decide +kernel
theorem dX5_drive_5 : decode cX5_drive 5 = .ok (.aload_n 0, 1) := by decide +kernel
theorem dX5_drive_6 : decode cX5_drive 6 = .ok (.getfield 12, 3) := by decide +kernel
theorem dX5_drive_9 : decode cX5_drive 9 = .ok (.getfield 113, 3) := by decide +kernel
theorem dX5_drive_12 : decode cX5_drive 12 = .ok (.istore_n 2, 1) := by decide +kernel
theorem dX5_drive_13 : decode cX5_drive 13 = .ok (.aload_n 0, 1) := by decide +kernel
theorem dX5_drive_14 : decode cX5_drive 14 = .ok (.invokevirtual 54, 3) := by decide +kernel
theorem dX5_drive_17 : decode cX5_drive 17 = .ok (.aload_n 0, 1) := by decide +kernel
theorem dX5_drive_18 : decode cX5_drive 18 = .ok (.getfield 23, 3) := by decide +kernel
theorem dX5_drive_21 : decode cX5_drive 21 = .ok (.iload_n 1, 1) := by decide +kernel
theorem dX5_drive_22 : decode cX5_drive 22 = .ok (.putfield 113, 3) := by decide +kernel
theorem dX5_drive_25 : decode cX5_drive 25 = .ok (.aload_n 0, 1) := by decide +kernel
theorem dX5_drive_26 : decode cX5_drive 26 = .ok (.invokevirtual 68, 3) := by decide +kernel
theorem dX5_drive_29 : decode cX5_drive 29 = .ok (.iload_n 2, 1) := by decide +kernel
theorem dX5_drive_30 : decode cX5_drive 30 = .ok (.ireturn, 1) := by decide +kernel
