theorem dX0_init_0 : decode cX0_init 0 = .ok (.aload_n 0, 1) := by decide +kernel
theorem dX0_init_1 : decode cX0_init 1 = .ok (.invokespecial 3, 3) := by decide +kernel
theorem dX0_init_4 : decode cX0_init 4 = .ok (.aload_n 0, 1) := by decide +kernel
theorem dX0_init_5 : decode cX0_init 5 = .ok (.bipush 9, 2) := by decide +kernel
theorem dX0_init_7 : decode cX0_init 7 = .ok (.newarray .int, 2) := by decide +kernel
theorem dX0_init_9 : decode cX0_init 9 = .ok (.putfield 9, 3) := by decide +kernel
theorem dX0_init_12 : decode cX0_init 12 = .ok (.aload_n 0, 1) := by decide +kernel
theorem dX0_init_13 : decode cX0_init 13 = .ok (.bipush 9, 2) := by decide +kernel
theorem dX0_init_15 : decode cX0_init 15 = .ok (.newarray .int, 2) := by decide +kernel
theorem dX0_init_17 : decode cX0_init 17 = .ok (.putfield 15, 3) := by decide +kernel
theorem dX0_init_20 : decode cX0_init 20 = .ok (.aload_n 0, 1) := by decide +kernel
theorem dX0_init_21 : decode cX0_init 21 = .ok (.bipush 18, 2) := by decide +kernel
theorem dX0_init_23 : decode cX0_init 23 = .ok (.newarray .int, 2) := by decide +kernel
theorem dX0_init_25 : decode cX0_init 25 = .ok (.putfield 18, 3) := by decide +kernel
theorem dX0_init_28 : decode cX0_init 28 = .ok (.aload_n 0, 1) := by decide +kernel
theorem dX0_init_29 : decode cX0_init 29 = .ok (.bipush 18, 2) := by decide +kernel
theorem dX0_init_31 : decode cX0_init 31 = .ok (.newarray .int, 2) := by decide +kernel
theorem dX0_init_33 : decode cX0_init 33 = .ok (.putfield 21, 3) := by decide +kernel
theorem dX0_init_36 : decode cX0_init 36 = .ok (.aload_n 0, 1) := by decide +kernel
theorem dX0_init_37 : decode cX0_init 37 = .ok (.iconst 0, 1) := by decide +kernel
theorem dX0_init_38 : decode cX0_init 38 = .ok (.putfield 24, 3) := by decide +kernel
theorem dX0_init_41 : decode cX0_init 41 = .ok (.aload_n 0, 1) := by decide +kernel
theorem dX0_init_42 : decode cX0_init 42 = .ok (.iconst (-1), 1) := by decide +kernel
theorem dX0_init_43 : decode cX0_init 43 = .ok (.putfield 28, 3) := by decide +kernel
theorem dX0_init_46 : decode cX0_init 46 = .ok (.aload_n 0, 1) := by decide +kernel
theorem dX0_init_47 : decode cX0_init 47 = .ok (.iconst (-1), 1) := by decide +kernel
theorem dX0_init_48 : decode cX0_init 48 = .ok (.putfield 31, 3) := by decide +kernel
theorem dX0_init_51 : decode cX0_init 51 = .ok (.aload_n 0, 1) := by decide +kernel
theorem dX0_init_52 : decode cX0_init 52 = .ok (.iconst 0, 1) := by decide +kernel
theorem dX0_init_53 : decode cX0_init 53 = .ok (.putfield 34, 3) := by decide +kernel
theorem dX0_init_56 : decode cX0_init 56 = .ok (.aload_n 0, 1) := by decide +kernel
theorem dX0_init_57 : decode cX0_init 57 = .ok (.iconst 1, 1) := by decide +kernel
theorem dX0_init_58 : decode cX0_init 58 = .ok (.putfield 37, 3) := by decide +kernel
theorem dX0_init_61 : decode cX0_init 61 = .ok (.aload_n 0, 1) := by decide +kernel
theorem dX0_init_62 : decode cX0_init 62 = .ok (.iconst 0, 1) := by decide +kernel
theorem dX0_init_63 : decode cX0_init 63 = .ok (.putfield 40, 3) := by decide +kernel
theorem dX0_init_66 : decode cX0_init 66 = .ok (.return_, 1) := by decide +kernel
theorem dX0_copyFrom_0 : decode cX0_copyFrom 0 = .ok (.aload_n 1, 1) := by decide +kernel
theorem dX0_copyFrom_1 : decode cX0_copyFrom 1 = .ok (.getfield 9, 3) := by decide +kernel
theorem dX0_copyFrom_4 : decode cX0_copyFrom 4 = .ok (.iconst 0, 1) := by decide +kernel
theorem dX0_copyFrom_5 : decode cX0_copyFrom 5 = .ok (.aload_n 0, 1) := by decide +kernel
theorem dX0_copyFrom_6 : decode cX0_copyFrom 6 = .ok (.getfield 9, 3) := by decide +kernel
theorem dX0_copyFrom_9 : decode cX0_copyFrom 9 = .ok (.iconst 0, 1) := by decide +kernel
theorem dX0_copyFrom_10 : decode cX0_copyFrom 10 = .ok (.bipush 9, 2) := by decide +kernel
theorem dX0_copyFrom_12 : decode cX0_copyFrom 12 = .ok (.invokestatic 43, 3) := by decide +kernel
theorem dX0_copyFrom_15 : decode cX0_copyFrom 15 = .ok (.aload_n 1, 1) := by decide +kernel
theorem dX0_copyFrom_16 : decode cX0_copyFrom 16 = .ok (.getfield 15, 3) := by decide +kernel
theorem dX0_copyFrom_19 : decode cX0_copyFrom 19 = .ok (.iconst 0, 1) := by decide +kernel
theorem dX0_copyFrom_20 : decode cX0_copyFrom 20 = .ok (.aload_n 0, 1) := by decide +kernel
theorem dX0_copyFrom_21 : decode cX0_copyFrom 21 = .ok (.getfield 15, 3) := by decide +kernel
theorem dX0_copyFrom_24 : decode cX0_copyFrom 24 = .ok (.iconst 0, 1) := by decide +kernel
theorem dX0_copyFrom_25 : decode cX0_copyFrom 25 = .ok (.bipush 9, 2) := by decide +kernel
theorem dX0_copyFrom_27 : decode cX0_copyFrom 27 = .ok (.invokestatic 43, 3) := by decide +kernel
theorem dX0_copyFrom_30 : decode cX0_copyFrom 30 = .ok (.aload_n 1, 1) := by decide +kernel
theorem dX0_copyFrom_31 : decode cX0_copyFrom 31 = .ok (.getfield 18, 3) := by decide +kernel
theorem dX0_copyFrom_34 : decode cX0_copyFrom 34 = .ok (.iconst 0, 1) := by decide +kernel
theorem dX0_copyFrom_35 : decode cX0_copyFrom 35 = .ok (.aload_n 0, 1) := by decide +kernel
theorem dX0_copyFrom_36 : decode cX0_copyFrom 36 = .ok (.getfield 18, 3) := by decide +kernel
theorem dX0_copyFrom_39 : decode cX0_copyFrom 39 = .ok (.iconst 0, 1) := by decide +kernel
theorem dX0_copyFrom_40 : decode cX0_copyFrom 40 = .ok (.bipush 18, 2) := by decide +kernel
theorem dX0_copyFrom_42 : decode cX0_copyFrom 42 = .ok (.invokestatic 43, 3) := by decide +kernel
theorem dX0_copyFrom_45 : decode cX0_copyFrom 45 = .ok (.aload_n 1, 1) := by decide +kernel
theorem dX0_copyFrom_46 : decode cX0_copyFrom 46 = .ok (.getfield 21, 3) := by decide +kernel
theorem dX0_copyFrom_49 : decode cX0_copyFrom 49 = .ok (.iconst 0, 1) := by decide +kernel
theorem dX0_copyFrom_50 : decode cX0_copyFrom 50 = .ok (.aload_n 0, 1) := by decide +kernel
theorem dX0_copyFrom_51 : decode cX0_copyFrom 51 = .ok (.getfield 21, 3) := by decide +kernel
theorem dX0_copyFrom_54 : decode cX0_copyFrom 54 = .ok (.iconst 0, 1) := by decide +kernel
theorem dX0_copyFrom_55 : decode cX0_copyFrom 55 = .ok (.bipush 18, 2) := by decide +kernel
theorem dX0_copyFrom_57 : decode cX0_copyFrom 57 = .ok (.invokestatic 43, 3) := by decide +kernel
theorem dX0_copyFrom_60 : decode cX0_copyFrom 60 = .ok (.aload_n 0, 1) := by decide +kernel
theorem dX0_copyFrom_61 : decode cX0_copyFrom 61 = .ok (.aload_n 1, 1) := by decide +kernel
theorem dX0_copyFrom_62 : decode cX0_copyFrom 62 = .ok (.getfield 24, 3) := by decide +kernel
theorem dX0_copyFrom_65 : decode cX0_copyFrom 65 = .ok (.putfield 24, 3) := by decide +kernel
theorem dX0_copyFrom_68 : decode cX0_copyFrom 68 = .ok (.aload_n 0, 1) := by decide +kernel
theorem dX0_copyFrom_69 : decode cX0_copyFrom 69 = .ok (.aload_n 1, 1) := by decide +kernel
theorem dX0_copyFrom_70 : decode cX0_copyFrom 70 = .ok (.getfield 28, 3) := by decide +kernel
theorem dX0_copyFrom_73 : decode cX0_copyFrom 73 = .ok (.putfield 28, 3) := by decide +kernel
theorem dX0_copyFrom_76 : decode cX0_copyFrom 76 = .ok (.aload_n 0, 1) := by decide +kernel
theorem dX0_copyFrom_77 : decode cX0_copyFrom 77 = .ok (.aload_n 1, 1) := by decide +kernel
theorem dX0_copyFrom_78 : decode cX0_copyFrom 78 = .ok (.getfield 31, 3) := by decide +kernel
theorem dX0_copyFrom_81 : decode cX0_copyFrom 81 = .ok (.putfield 31, 3) := by decide +kernel
theorem dX0_copyFrom_84 : decode cX0_copyFrom 84 = .ok (.aload_n 0, 1) := by decide +kernel
theorem dX0_copyFrom_85 : decode cX0_copyFrom 85 = .ok (.aload_n 1, 1) := by decide +kernel
theorem dX0_copyFrom_86 : decode cX0_copyFrom 86 = .ok (.getfield 34, 3) := by decide +kernel
theorem dX0_copyFrom_89 : decode cX0_copyFrom 89 = .ok (.putfield 34, 3) := by decide +kernel
theorem dX0_copyFrom_92 : decode cX0_copyFrom 92 = .ok (.aload_n 0, 1) := by decide +kernel
theorem dX0_copyFrom_93 : decode cX0_copyFrom 93 = .ok (.aload_n 1, 1) := by decide +kernel
theorem dX0_copyFrom_94 : decode cX0_copyFrom 94 = .ok (.getfield 37, 3) := by decide +kernel
theorem dX0_copyFrom_97 : decode cX0_copyFrom 97 = .ok (.putfield 37, 3) := by decide +kernel
theorem dX0_copyFrom_100 : decode cX0_copyFrom 100 = .ok (.aload_n 0, 1) := by decide +kernel
theorem dX0_copyFrom_101 : decode cX0_copyFrom 101 = .ok (.aload_n 1, 1) := by decide +kernel
theorem dX0_copyFrom_102 : decode cX0_copyFrom 102 = .ok (.getfield 40, 3) := by decide +kernel
theorem dX0_copyFrom_105 : decode cX0_copyFrom 105 = .ok (.putfield 40, 3) := by decide +kernel
theorem dX0_copyFrom_108 : decode cX0_copyFrom 108 = .ok (.return_, 1) := by decide +kernel
theorem dX0_spot_0 : decode cX0_spot 0 = .ok (.iload_n 1, 1) := by decide +kernel
theorem dX0_spot_1 : decode cX0_spot 1 = .ok (.bipush 9, 2) := by decide +kernel
theorem dX0_spot_3 : decode cX0_spot 3 = .ok (.imul, 1) := by decide +kernel
theorem dX0_spot_4 : decode cX0_spot 4 = .ok (.iload_n 0, 1) := by decide +kernel
theorem dX0_spot_5 : decode cX0_spot 5 = .ok (.iadd, 1) := by decide +kernel
theorem dX0_spot_6 : decode cX0_spot 6 = .ok (.ireturn, 1) := by decide +kernel
theorem dX0_hasPeg_0 : decode cX0_hasPeg 0 = .ok (.iload_n 1, 1) := by decide +kernel
theorem dX0_hasPeg_1 : decode cX0_hasPeg 1 = .ok (.ifCond .lt 15, 3) := by decide +kernel
theorem dX0_hasPeg_4 : decode cX0_hasPeg 4 = .ok (.iload_n 1, 1) := by decide +kernel
theorem dX0_hasPeg_5 : decode cX0_hasPeg 5 = .ok (.aload_n 0, 1) := by decide +kernel
theorem dX0_hasPeg_6 : decode cX0_hasPeg 6 = .ok (.getfield 24, 3) := by decide +kernel
theorem dX0_hasPeg_9 : decode cX0_hasPeg 9 = .ok (.if_icmp .ge 7, 3) := by decide +kernel
theorem dX0_hasPeg_12 : decode cX0_hasPeg 12 = .ok (.iconst 1, 1) := by decide +kernel
theorem dX0_hasPeg_13 : decode cX0_hasPeg 13 = .ok (.goto 4, 3) := by decide +kernel
theorem dX0_hasPeg_16 : decode cX0_hasPeg 16 = .ok (.iconst 0, 1) := by decide +kernel
theorem dX0_hasPeg_17 : decode cX0_hasPeg 17 = .ok (.ireturn, 1) := by decide +kernel
theorem dX0_pegAt_0 : decode cX0_pegAt 0 = .ok (.iconst 0, 1) := by decide +kernel
theorem dX0_pegAt_1 : decode cX0_pegAt 1 = .ok (.istore_n 3, 1) := by decide +kernel
theorem dX0_pegAt_2 : decode cX0_pegAt 2 = .ok (.iload_n 3, 1) := by decide +kernel
theorem dX0_pegAt_3 : decode cX0_pegAt 3 = .ok (.aload_n 0, 1) := by decide +kernel
theorem dX0_pegAt_4 : decode cX0_pegAt 4 = .ok (.getfield 24, 3) := by decide +kernel
theorem dX0_pegAt_7 : decode cX0_pegAt 7 = .ok (.if_icmp .ge 31, 3) := by decide +kernel
theorem dX0_pegAt_10 : decode cX0_pegAt 10 = .ok (.aload_n 0, 1) := by decide +kernel
theorem dX0_pegAt_11 : decode cX0_pegAt 11 = .ok (.getfield 9, 3) := by decide +kernel
theorem dX0_pegAt_14 : decode cX0_pegAt 14 = .ok (.iload_n 3, 1) := by decide +kernel
theorem dX0_pegAt_15 : decode cX0_pegAt 15 = .ok (.iaload, 1) := by decide +kernel
theorem dX0_pegAt_16 : decode cX0_pegAt 16 = .ok (.iload_n 1, 1) := by decide +kernel
theorem dX0_pegAt_17 : decode cX0_pegAt 17 = .ok (.if_icmp .ne 15, 3) := by decide +kernel
theorem dX0_pegAt_20 : decode cX0_pegAt 20 = .ok (.aload_n 0, 1) := by decide +kernel
theorem dX0_pegAt_21 : decode cX0_pegAt 21 = .ok (.getfield 15, 3) := by decide +kernel
theorem dX0_pegAt_24 : decode cX0_pegAt 24 = .ok (.iload_n 3, 1) := by decide +kernel
theorem dX0_pegAt_25 : decode cX0_pegAt 25 = .ok (.iaload, 1) := by decide +kernel
theorem dX0_pegAt_26 : decode cX0_pegAt 26 = .ok (.iload_n 2, 1) := by decide +kernel
theorem dX0_pegAt_27 : decode cX0_pegAt 27 = .ok (.if_icmp .ne 5, 3) := by decide +kernel
theorem dX0_pegAt_30 : decode cX0_pegAt 30 = .ok (.iload_n 3, 1) := by decide +kernel
theorem dX0_pegAt_31 : decode cX0_pegAt 31 = .ok (.ireturn, 1) := by decide +kernel
theorem dX0_pegAt_32 : decode cX0_pegAt 32 = .ok (.iinc 3 1, 3) := by decide +kernel
theorem dX0_pegAt_35 : decode cX0_pegAt 35 = .ok (.goto (-33), 3) := by decide +kernel
theorem dX0_pegAt_38 : decode cX0_pegAt 38 = .ok (.iconst (-1), 1) := by decide +kernel
theorem dX0_pegAt_39 : decode cX0_pegAt 39 = .ok (.ireturn, 1) := by decide +kernel
theorem dX0_tryAdd_0 : decode cX0_tryAdd 0 = .ok (.aload_n 0, 1) := by decide +kernel
theorem dX0_tryAdd_1 : decode cX0_tryAdd 1 = .ok (.getfield 24, 3) := by decide +kernel
theorem dX0_tryAdd_4 : decode cX0_tryAdd 4 = .ok (.bipush 9, 2) := by decide +kernel
theorem dX0_tryAdd_6 : decode cX0_tryAdd 6 = .ok (.if_icmp .ge 13, 3) := by decide +kernel
theorem dX0_tryAdd_9 : decode cX0_tryAdd 9 = .ok (.aload_n 0, 1) := by decide +kernel
theorem dX0_tryAdd_10 : decode cX0_tryAdd 10 = .ok (.iload_n 1, 1) := by decide +kernel
theorem dX0_tryAdd_11 : decode cX0_tryAdd 11 = .ok (.iload_n 2, 1) := by decide +kernel
theorem dX0_tryAdd_12 : decode cX0_tryAdd 12 = .ok (.invokevirtual 49, 3) := by decide +kernel
theorem dX0_tryAdd_15 : decode cX0_tryAdd 15 = .ok (.iconst (-1), 1) := by decide +kernel
theorem dX0_tryAdd_16 : decode cX0_tryAdd 16 = .ok (.if_icmp .eq 5, 3) := by decide +kernel
theorem dX0_tryAdd_19 : decode cX0_tryAdd 19 = .ok (.iconst 0, 1) := by decide +kernel
theorem dX0_tryAdd_20 : decode cX0_tryAdd 20 = .ok (.ireturn, 1) := by decide +kernel
theorem dX0_tryAdd_21 : decode cX0_tryAdd 21 = .ok (.aload_n 0, 1) := by decide +kernel
theorem dX0_tryAdd_22 : decode cX0_tryAdd 22 = .ok (.getfield 9, 3) := by decide +kernel
theorem dX0_tryAdd_25 : decode cX0_tryAdd 25 = .ok (.aload_n 0, 1) := by decide +kernel
theorem dX0_tryAdd_26 : decode cX0_tryAdd 26 = .ok (.getfield 24, 3) := by decide +kernel
theorem dX0_tryAdd_29 : decode cX0_tryAdd 29 = .ok (.iload_n 1, 1) := by decide +kernel
theorem dX0_tryAdd_30 : decode cX0_tryAdd 30 = .ok (.iastore, 1) := by decide +kernel
theorem dX0_tryAdd_31 : decode cX0_tryAdd 31 = .ok (.aload_n 0, 1) := by decide +kernel
theorem dX0_tryAdd_32 : decode cX0_tryAdd 32 = .ok (.getfield 15, 3) := by decide +kernel
theorem dX0_tryAdd_35 : decode cX0_tryAdd 35 = .ok (.aload_n 0, 1) := by decide +kernel
theorem dX0_tryAdd_36 : decode cX0_tryAdd 36 = .ok (.getfield 24, 3) := by decide +kernel
theorem dX0_tryAdd_39 : decode cX0_tryAdd 39 = .ok (.iload_n 2, 1) := by decide +kernel
theorem dX0_tryAdd_40 : decode cX0_tryAdd 40 = .ok (.iastore, 1) := by decide +kernel
theorem dX0_tryAdd_41 : decode cX0_tryAdd 41 = .ok (.iconst 0, 1) := by decide +kernel
theorem dX0_tryAdd_42 : decode cX0_tryAdd 42 = .ok (.istore_n 3, 1) := by decide +kernel
theorem dX0_tryAdd_43 : decode cX0_tryAdd 43 = .ok (.iload_n 3, 1) := by decide +kernel
theorem dX0_tryAdd_44 : decode cX0_tryAdd 44 = .ok (.iconst 2, 1) := by decide +kernel
theorem dX0_tryAdd_45 : decode cX0_tryAdd 45 = .ok (.if_icmp .ge 20, 3) := by decide +kernel
theorem dX0_tryAdd_48 : decode cX0_tryAdd 48 = .ok (.aload_n 0, 1) := by decide +kernel
theorem dX0_tryAdd_49 : decode cX0_tryAdd 49 = .ok (.aload_n 0, 1) := by decide +kernel
theorem dX0_tryAdd_50 : decode cX0_tryAdd 50 = .ok (.getfield 24, 3) := by decide +kernel
theorem dX0_tryAdd_53 : decode cX0_tryAdd 53 = .ok (.iload_n 3, 1) := by decide +kernel
theorem dX0_tryAdd_54 : decode cX0_tryAdd 54 = .ok (.iconst 0, 1) := by decide +kernel
theorem dX0_tryAdd_55 : decode cX0_tryAdd 55 = .ok (.iconst 0, 1) := by decide +kernel
theorem dX0_tryAdd_56 : decode cX0_tryAdd 56 = .ok (.invokevirtual 53, 3) := by decide +kernel
theorem dX0_tryAdd_59 : decode cX0_tryAdd 59 = .ok (.iinc 3 1, 3) := by decide +kernel
theorem dX0_tryAdd_62 : decode cX0_tryAdd 62 = .ok (.goto (-19), 3) := by decide +kernel
theorem dX0_tryAdd_65 : decode cX0_tryAdd 65 = .ok (.aload_n 0, 1) := by decide +kernel
theorem dX0_tryAdd_66 : decode cX0_tryAdd 66 = .ok (.dup, 1) := by decide +kernel
theorem dX0_tryAdd_67 : decode cX0_tryAdd 67 = .ok (.getfield 24, 3) := by decide +kernel
theorem dX0_tryAdd_70 : decode cX0_tryAdd 70 = .ok (.iconst 1, 1) := by decide +kernel
theorem dX0_tryAdd_71 : decode cX0_tryAdd 71 = .ok (.iadd, 1) := by decide +kernel
theorem dX0_tryAdd_72 : decode cX0_tryAdd 72 = .ok (.putfield 24, 3) := by decide +kernel
theorem dX0_tryAdd_75 : decode cX0_tryAdd 75 = .ok (.iconst 1, 1) := by decide +kernel
theorem dX0_tryAdd_76 : decode cX0_tryAdd 76 = .ok (.ireturn, 1) := by decide +kernel
theorem dX0_replace_0 : decode cX0_replace 0 = .ok (.aload_n 0, 1) := by decide +kernel
theorem dX0_replace_1 : decode cX0_replace 1 = .ok (.getfield 18, 3) := by decide +kernel
theorem dX0_replace_4 : decode cX0_replace 4 = .ok (.iload_n 1, 1) := by decide +kernel
theorem dX0_replace_5 : decode cX0_replace 5 = .ok (.iload_n 2, 1) := by decide +kernel
theorem dX0_replace_6 : decode cX0_replace 6 = .ok (.invokestatic 57, 3) := by decide +kernel
theorem dX0_replace_9 : decode cX0_replace 9 = .ok (.iload_n 3, 1) := by decide +kernel
theorem dX0_replace_10 : decode cX0_replace 10 = .ok (.iastore, 1) := by decide +kernel
theorem dX0_replace_11 : decode cX0_replace 11 = .ok (.aload_n 0, 1) := by decide +kernel
theorem dX0_replace_12 : decode cX0_replace 12 = .ok (.getfield 21, 3) := by decide +kernel
theorem dX0_replace_15 : decode cX0_replace 15 = .ok (.iload_n 1, 1) := by decide +kernel
theorem dX0_replace_16 : decode cX0_replace 16 = .ok (.iload_n 2, 1) := by decide +kernel
theorem dX0_replace_17 : decode cX0_replace 17 = .ok (.invokestatic 57, 3) := by decide +kernel
theorem dX0_replace_20 : decode cX0_replace 20 = .ok (.iload 4, 2) := by decide +kernel
theorem dX0_replace_22 : decode cX0_replace 22 = .ok (.iastore, 1) := by decide +kernel
theorem dX0_replace_23 : decode cX0_replace 23 = .ok (.return_, 1) := by decide +kernel
theorem dX0_tryPut_0 : decode cX0_tryPut 0 = .ok (.aload_n 0, 1) := by decide +kernel
theorem dX0_tryPut_1 : decode cX0_tryPut 1 = .ok (.iload_n 1, 1) := by decide +kernel
theorem dX0_tryPut_2 : decode cX0_tryPut 2 = .ok (.invokevirtual 60, 3) := by decide +kernel
theorem dX0_tryPut_5 : decode cX0_tryPut 5 = .ok (.ifCond .ne 5, 3) := by decide +kernel
theorem dX0_tryPut_8 : decode cX0_tryPut 8 = .ok (.iconst 0, 1) := by decide +kernel
theorem dX0_tryPut_9 : decode cX0_tryPut 9 = .ok (.ireturn, 1) := by decide +kernel
theorem dX0_tryPut_10 : decode cX0_tryPut 10 = .ok (.aload_n 0, 1) := by decide +kernel
theorem dX0_tryPut_11 : decode cX0_tryPut 11 = .ok (.getfield 18, 3) := by decide +kernel
theorem dX0_tryPut_14 : decode cX0_tryPut 14 = .ok (.iload_n 1, 1) := by decide +kernel
theorem dX0_tryPut_15 : decode cX0_tryPut 15 = .ok (.iload_n 2, 1) := by decide +kernel
theorem dX0_tryPut_16 : decode cX0_tryPut 16 = .ok (.invokestatic 57, 3) := by decide +kernel
theorem dX0_tryPut_19 : decode cX0_tryPut 19 = .ok (.iaload, 1) := by decide +kernel
theorem dX0_tryPut_20 : decode cX0_tryPut 20 = .ok (.istore 5, 2) := by decide +kernel
theorem dX0_tryPut_22 : decode cX0_tryPut 22 = .ok (.aload_n 0, 1) := by decide +kernel
theorem dX0_tryPut_23 : decode cX0_tryPut 23 = .ok (.getfield 21, 3) := by decide +kernel
theorem dX0_tryPut_26 : decode cX0_tryPut 26 = .ok (.iload_n 1, 1) := by decide +kernel
theorem dX0_tryPut_27 : decode cX0_tryPut 27 = .ok (.iload_n 2, 1) := by decide +kernel
theorem dX0_tryPut_28 : decode cX0_tryPut 28 = .ok (.invokestatic 57, 3) := by decide +kernel
theorem dX0_tryPut_31 : decode cX0_tryPut 31 = .ok (.iaload, 1) := by decide +kernel
theorem dX0_tryPut_32 : decode cX0_tryPut 32 = .ok (.istore 6, 2) := by decide +kernel
theorem dX0_tryPut_34 : decode cX0_tryPut 34 = .ok (.aload_n 0, 1) := by decide +kernel
theorem dX0_tryPut_35 : decode cX0_tryPut 35 = .ok (.iload_n 1, 1) := by decide +kernel
theorem dX0_tryPut_36 : decode cX0_tryPut 36 = .ok (.iload_n 2, 1) := by decide +kernel
theorem dX0_tryPut_37 : decode cX0_tryPut 37 = .ok (.iload_n 3, 1) := by decide +kernel
theorem dX0_tryPut_38 : decode cX0_tryPut 38 = .ok (.iload 4, 2) := by decide +kernel
theorem dX0_tryPut_40 : decode cX0_tryPut 40 = .ok (.invokevirtual 53, 3) := by decide +kernel
theorem dX0_tryPut_43 : decode cX0_tryPut 43 = .ok (.aload_n 0, 1) := by decide +kernel
theorem dX0_tryPut_44 : decode cX0_tryPut 44 = .ok (.iload_n 1, 1) := by decide +kernel
theorem dX0_tryPut_45 : decode cX0_tryPut 45 = .ok (.iload_n 2, 1) := by decide +kernel
theorem dX0_tryPut_46 : decode cX0_tryPut 46 = .ok (.invokevirtual 64, 3) := by decide +kernel
theorem dX0_tryPut_49 : decode cX0_tryPut 49 = .ok (.ifCond .eq 5, 3) := by decide +kernel
theorem dX0_tryPut_52 : decode cX0_tryPut 52 = .ok (.iconst 1, 1) := by decide +kernel
theorem dX0_tryPut_53 : decode cX0_tryPut 53 = .ok (.ireturn, 1) := by decide +kernel
theorem dX0_tryPut_54 : decode cX0_tryPut 54 = .ok (.aload_n 0, 1) := by decide +kernel
theorem dX0_tryPut_55 : decode cX0_tryPut 55 = .ok (.iload_n 1, 1) := by decide +kernel
theorem dX0_tryPut_56 : decode cX0_tryPut 56 = .ok (.iload_n 2, 1) := by decide +kernel
theorem dX0_tryPut_57 : decode cX0_tryPut 57 = .ok (.iload 5, 2) := by decide +kernel
theorem dX0_tryPut_59 : decode cX0_tryPut 59 = .ok (.iload 6, 2) := by decide +kernel
theorem dX0_tryPut_61 : decode cX0_tryPut 61 = .ok (.invokevirtual 53, 3) := by decide +kernel
theorem dX0_tryPut_64 : decode cX0_tryPut 64 = .ok (.iconst 0, 1) := by decide +kernel
theorem dX0_tryPut_65 : decode cX0_tryPut 65 = .ok (.ireturn, 1) := by decide +kernel
theorem dX0_tryShift_0 : decode cX0_tryShift 0 = .ok (.aload_n 0, 1) := by decide +kernel
theorem dX0_tryShift_1 : decode cX0_tryShift 1 = .ok (.iload_n 2, 1) := by decide +kernel
theorem dX0_tryShift_2 : decode cX0_tryShift 2 = .ok (.iload_n 3, 1) := by decide +kernel
theorem dX0_tryShift_3 : decode cX0_tryShift 3 = .ok (.invokevirtual 49, 3) := by decide +kernel
theorem dX0_tryShift_6 : decode cX0_tryShift 6 = .ok (.istore 4, 2) := by decide +kernel
theorem dX0_tryShift_8 : decode cX0_tryShift 8 = .ok (.iload 4, 2) := by decide +kernel
theorem dX0_tryShift_10 : decode cX0_tryShift 10 = .ok (.iconst (-1), 1) := by decide +kernel
theorem dX0_tryShift_11 : decode cX0_tryShift 11 = .ok (.if_icmp .eq 11, 3) := by decide +kernel
theorem dX0_tryShift_14 : decode cX0_tryShift 14 = .ok (.iload 4, 2) := by decide +kernel
theorem dX0_tryShift_16 : decode cX0_tryShift 16 = .ok (.iload_n 1, 1) := by decide +kernel
theorem dX0_tryShift_17 : decode cX0_tryShift 17 = .ok (.if_icmp .eq 5, 3) := by decide +kernel
theorem dX0_tryShift_20 : decode cX0_tryShift 20 = .ok (.iconst 0, 1) := by decide +kernel
theorem dX0_tryShift_21 : decode cX0_tryShift 21 = .ok (.ireturn, 1) := by decide +kernel
theorem dX0_tryShift_22 : decode cX0_tryShift 22 = .ok (.aload_n 0, 1) := by decide +kernel
theorem dX0_tryShift_23 : decode cX0_tryShift 23 = .ok (.getfield 9, 3) := by decide +kernel
theorem dX0_tryShift_26 : decode cX0_tryShift 26 = .ok (.iload_n 1, 1) := by decide +kernel
theorem dX0_tryShift_27 : decode cX0_tryShift 27 = .ok (.iload_n 2, 1) := by decide +kernel
theorem dX0_tryShift_28 : decode cX0_tryShift 28 = .ok (.iastore, 1) := by decide +kernel
theorem dX0_tryShift_29 : decode cX0_tryShift 29 = .ok (.aload_n 0, 1) := by decide +kernel
theorem dX0_tryShift_30 : decode cX0_tryShift 30 = .ok (.getfield 15, 3) := by decide +kernel
theorem dX0_tryShift_33 : decode cX0_tryShift 33 = .ok (.iload_n 1, 1) := by decide +kernel
theorem dX0_tryShift_34 : decode cX0_tryShift 34 = .ok (.iload_n 3, 1) := by decide +kernel
theorem dX0_tryShift_35 : decode cX0_tryShift 35 = .ok (.iastore, 1) := by decide +kernel
theorem dX0_tryShift_36 : decode cX0_tryShift 36 = .ok (.aload_n 0, 1) := by decide +kernel
theorem dX0_tryShift_37 : decode cX0_tryShift 37 = .ok (.iload_n 1, 1) := by decide +kernel
theorem dX0_tryShift_38 : decode cX0_tryShift 38 = .ok (.iconst 0, 1) := by decide +kernel
theorem dX0_tryShift_39 : decode cX0_tryShift 39 = .ok (.invokevirtual 64, 3) := by decide +kernel
theorem dX0_tryShift_42 : decode cX0_tryShift 42 = .ok (.ifCond .eq 16, 3) := by decide +kernel
theorem dX0_tryShift_45 : decode cX0_tryShift 45 = .ok (.aload_n 0, 1) := by decide +kernel
theorem dX0_tryShift_46 : decode cX0_tryShift 46 = .ok (.iload_n 1, 1) := by decide +kernel
theorem dX0_tryShift_47 : decode cX0_tryShift 47 = .ok (.iconst 1, 1) := by decide +kernel
theorem dX0_tryShift_48 : decode cX0_tryShift 48 = .ok (.invokevirtual 64, 3) := by decide +kernel
theorem dX0_tryShift_51 : decode cX0_tryShift 51 = .ok (.ifCond .eq 7, 3) := by decide +kernel
theorem dX0_tryShift_54 : decode cX0_tryShift 54 = .ok (.iconst 1, 1) := by decide +kernel
theorem dX0_tryShift_55 : decode cX0_tryShift 55 = .ok (.goto 4, 3) := by decide +kernel
theorem dX0_tryShift_58 : decode cX0_tryShift 58 = .ok (.iconst 0, 1) := by decide +kernel
theorem dX0_tryShift_59 : decode cX0_tryShift 59 = .ok (.ireturn, 1) := by decide +kernel
theorem dX0_tryTurnOver_0 : decode cX0_tryTurnOver 0 = .ok (.aload_n 0, 1) := by decide +kernel
theorem dX0_tryTurnOver_1 : decode cX0_tryTurnOver 1 = .ok (.getfield 18, 3) := by decide +kernel
theorem dX0_tryTurnOver_4 : decode cX0_tryTurnOver 4 = .ok (.iload_n 1, 1) := by decide +kernel
theorem dX0_tryTurnOver_5 : decode cX0_tryTurnOver 5 = .ok (.iconst 0, 1) := by decide +kernel
theorem dX0_tryTurnOver_6 : decode cX0_tryTurnOver 6 = .ok (.invokestatic 57, 3) := by decide +kernel
theorem dX0_tryTurnOver_9 : decode cX0_tryTurnOver 9 = .ok (.iaload, 1) := by decide +kernel
theorem dX0_tryTurnOver_10 : decode cX0_tryTurnOver 10 = .ok (.istore_n 2, 1) := by decide +kernel
theorem dX0_tryTurnOver_11 : decode cX0_tryTurnOver 11 = .ok (.aload_n 0, 1) := by decide +kernel
theorem dX0_tryTurnOver_12 : decode cX0_tryTurnOver 12 = .ok (.getfield 21, 3) := by decide +kernel
theorem dX0_tryTurnOver_15 : decode cX0_tryTurnOver 15 = .ok (.iload_n 1, 1) := by decide +kernel
theorem dX0_tryTurnOver_16 : decode cX0_tryTurnOver 16 = .ok (.iconst 0, 1) := by decide +kernel
theorem dX0_tryTurnOver_17 : decode cX0_tryTurnOver 17 = .ok (.invokestatic 57, 3) := by decide +kernel
theorem dX0_tryTurnOver_20 : decode cX0_tryTurnOver 20 = .ok (.iaload, 1) := by decide +kernel
theorem dX0_tryTurnOver_21 : decode cX0_tryTurnOver 21 = .ok (.istore_n 3, 1) := by decide +kernel
theorem dX0_tryTurnOver_22 : decode cX0_tryTurnOver 22 = .ok (.aload_n 0, 1) := by decide +kernel
theorem dX0_tryTurnOver_23 : decode cX0_tryTurnOver 23 = .ok (.iload_n 1, 1) := by decide +kernel
theorem dX0_tryTurnOver_24 : decode cX0_tryTurnOver 24 = .ok (.iconst 0, 1) := by decide +kernel
theorem dX0_tryTurnOver_25 : decode cX0_tryTurnOver 25 = .ok (.aload_n 0, 1) := by decide +kernel
theorem dX0_tryTurnOver_26 : decode cX0_tryTurnOver 26 = .ok (.getfield 18, 3) := by decide +kernel
theorem dX0_tryTurnOver_29 : decode cX0_tryTurnOver 29 = .ok (.iload_n 1, 1) := by decide +kernel
theorem dX0_tryTurnOver_30 : decode cX0_tryTurnOver 30 = .ok (.iconst 1, 1) := by decide +kernel
theorem dX0_tryTurnOver_31 : decode cX0_tryTurnOver 31 = .ok (.invokestatic 57, 3) := by decide +kernel
theorem dX0_tryTurnOver_34 : decode cX0_tryTurnOver 34 = .ok (.iaload, 1) := by decide +kernel
theorem dX0_tryTurnOver_35 : decode cX0_tryTurnOver 35 = .ok (.aload_n 0, 1) := by decide +kernel
theorem dX0_tryTurnOver_36 : decode cX0_tryTurnOver 36 = .ok (.getfield 21, 3) := by decide +kernel
theorem dX0_tryTurnOver_39 : decode cX0_tryTurnOver 39 = .ok (.iload_n 1, 1) := by decide +kernel
theorem dX0_tryTurnOver_40 : decode cX0_tryTurnOver 40 = .ok (.iconst 1, 1) := by decide +kernel
theorem dX0_tryTurnOver_41 : decode cX0_tryTurnOver 41 = .ok (.invokestatic 57, 3) := by decide +kernel
theorem dX0_tryTurnOver_44 : decode cX0_tryTurnOver 44 = .ok (.iaload, 1) := by decide +kernel
theorem dX0_tryTurnOver_45 : decode cX0_tryTurnOver 45 = .ok (.invokevirtual 53, 3) := by decide +kernel
theorem dX0_tryTurnOver_48 : decode cX0_tryTurnOver 48 = .ok (.aload_n 0, 1) := by decide +kernel
theorem dX0_tryTurnOver_49 : decode cX0_tryTurnOver 49 = .ok (.iload_n 1, 1) := by decide +kernel
theorem dX0_tryTurnOver_50 : decode cX0_tryTurnOver 50 = .ok (.iconst 1, 1) := by decide +kernel
theorem dX0_tryTurnOver_51 : decode cX0_tryTurnOver 51 = .ok (.iload_n 2, 1) := by decide +kernel
theorem dX0_tryTurnOver_52 : decode cX0_tryTurnOver 52 = .ok (.iload_n 3, 1) := by decide +kernel
theorem dX0_tryTurnOver_53 : decode cX0_tryTurnOver 53 = .ok (.invokevirtual 53, 3) := by decide +kernel
theorem dX0_tryTurnOver_56 : decode cX0_tryTurnOver 56 = .ok (.aload_n 0, 1) := by decide +kernel
theorem dX0_tryTurnOver_57 : decode cX0_tryTurnOver 57 = .ok (.iload_n 1, 1) := by decide +kernel
theorem dX0_tryTurnOver_58 : decode cX0_tryTurnOver 58 = .ok (.iconst 0, 1) := by decide +kernel
theorem dX0_tryTurnOver_59 : decode cX0_tryTurnOver 59 = .ok (.invokevirtual 64, 3) := by decide +kernel
theorem dX0_tryTurnOver_62 : decode cX0_tryTurnOver 62 = .ok (.ifCond .eq 16, 3) := by decide +kernel
theorem dX0_tryTurnOver_65 : decode cX0_tryTurnOver 65 = .ok (.aload_n 0, 1) := by decide +kernel
theorem dX0_tryTurnOver_66 : decode cX0_tryTurnOver 66 = .ok (.iload_n 1, 1) := by decide +kernel
theorem dX0_tryTurnOver_67 : decode cX0_tryTurnOver 67 = .ok (.iconst 1, 1) := by decide +kernel
theorem dX0_tryTurnOver_68 : decode cX0_tryTurnOver 68 = .ok (.invokevirtual 64, 3) := by decide +kernel
theorem dX0_tryTurnOver_71 : decode cX0_tryTurnOver 71 = .ok (.ifCond .eq 7, 3) := by decide +kernel
theorem dX0_tryTurnOver_74 : decode cX0_tryTurnOver 74 = .ok (.iconst 1, 1) := by decide +kernel
theorem dX0_tryTurnOver_75 : decode cX0_tryTurnOver 75 = .ok (.goto 4, 3) := by decide +kernel
theorem dX0_tryTurnOver_78 : decode cX0_tryTurnOver 78 = .ok (.iconst 0, 1) := by decide +kernel
theorem dX0_tryTurnOver_79 : decode cX0_tryTurnOver 79 = .ok (.ireturn, 1) := by decide +kernel
theorem dX0_tryDrive_0 : decode cX0_tryDrive 0 = .ok (.aload_n 0, 1) := by decide +kernel
theorem dX0_tryDrive_1 : decode cX0_tryDrive 1 = .ok (.iload_n 1, 1) := by decide +kernel
theorem dX0_tryDrive_2 : decode cX0_tryDrive 2 = .ok (.invokevirtual 60, 3) := by decide +kernel
theorem dX0_tryDrive_5 : decode cX0_tryDrive 5 = .ok (.ifCond .ne 5, 3) := by decide +kernel
theorem dX0_tryDrive_8 : decode cX0_tryDrive 8 = .ok (.iconst 0, 1) := by decide +kernel
theorem dX0_tryDrive_9 : decode cX0_tryDrive 9 = .ok (.ireturn, 1) := by decide +kernel
theorem dX0_tryDrive_10 : decode cX0_tryDrive 10 = .ok (.aload_n 0, 1) := by decide +kernel
theorem dX0_tryDrive_11 : decode cX0_tryDrive 11 = .ok (.iload_n 1, 1) := by decide +kernel
theorem dX0_tryDrive_12 : decode cX0_tryDrive 12 = .ok (.putfield 28, 3) := by decide +kernel
theorem dX0_tryDrive_15 : decode cX0_tryDrive 15 = .ok (.iconst 1, 1) := by decide +kernel
theorem dX0_tryDrive_16 : decode cX0_tryDrive 16 = .ok (.ireturn, 1) := by decide +kernel
theorem dX0_setGoal_0 : decode cX0_setGoal 0 = .ok (.iload_n 2, 1) := by decide +kernel
theorem dX0_setGoal_1 : decode cX0_setGoal 1 = .ok (.i2l, 1) := by decide +kernel
theorem dX0_setGoal_2 : decode cX0_setGoal 2 = .ok (.iload_n 3, 1) := by decide +kernel
theorem dX0_setGoal_3 : decode cX0_setGoal 3 = .ok (.i2l, 1) := by decide +kernel
theorem dX0_setGoal_4 : decode cX0_setGoal 4 = .ok (.invokestatic 68, 3) := by decide +kernel
theorem dX0_setGoal_7 : decode cX0_setGoal 7 = .ok (.l2i, 1) := by decide +kernel
theorem dX0_setGoal_8 : decode cX0_setGoal 8 = .ok (.istore 4, 2) := by decide +kernel
theorem dX0_setGoal_10 : decode cX0_setGoal 10 = .ok (.aload_n 0, 1) := by decide +kernel
theorem dX0_setGoal_11 : decode cX0_setGoal 11 = .ok (.iload_n 1, 1) := by decide +kernel
theorem dX0_setGoal_12 : decode cX0_setGoal 12 = .ok (.putfield 31, 3) := by decide +kernel
theorem dX0_setGoal_15 : decode cX0_setGoal 15 = .ok (.aload_n 0, 1) := by decide +kernel
theorem dX0_setGoal_16 : decode cX0_setGoal 16 = .ok (.iload 4, 2) := by decide +kernel
theorem dX0_setGoal_18 : decode cX0_setGoal 18 = .ok (.iconst 1, 1) := by decide +kernel
theorem dX0_setGoal_19 : decode cX0_setGoal 19 = .ok (.if_icmp .le 10, 3) := by decide +kernel
theorem dX0_setGoal_22 : decode cX0_setGoal 22 = .ok (.iload_n 2, 1) := by decide +kernel
theorem dX0_setGoal_23 : decode cX0_setGoal 23 = .ok (.iload 4, 2) := by decide +kernel
theorem dX0_setGoal_25 : decode cX0_setGoal 25 = .ok (.idiv, 1) := by decide +kernel
theorem dX0_setGoal_26 : decode cX0_setGoal 26 = .ok (.goto 4, 3) := by decide +kernel
theorem dX0_setGoal_29 : decode cX0_setGoal 29 = .ok (.iload_n 2, 1) := by decide +kernel
theorem dX0_setGoal_30 : decode cX0_setGoal 30 = .ok (.putfield 34, 3) := by decide +kernel
theorem dX0_setGoal_33 : decode cX0_setGoal 33 = .ok (.aload_n 0, 1) := by decide +kernel
theorem dX0_setGoal_34 : decode cX0_setGoal 34 = .ok (.iload 4, 2) := by decide +kernel
theorem dX0_setGoal_36 : decode cX0_setGoal 36 = .ok (.iconst 1, 1) := by decide +kernel
theorem dX0_setGoal_37 : decode cX0_setGoal 37 = .ok (.if_icmp .le 10, 3) := by decide +kernel
theorem dX0_setGoal_40 : decode cX0_setGoal 40 = .ok (.iload_n 3, 1) := by decide +kernel
theorem dX0_setGoal_41 : decode cX0_setGoal 41 = .ok (.iload 4, 2) := by decide +kernel
theorem dX0_setGoal_43 : decode cX0_setGoal 43 = .ok (.idiv, 1) := by decide +kernel
theorem dX0_setGoal_44 : decode cX0_setGoal 44 = .ok (.goto 4, 3) := by decide +kernel
theorem dX0_setGoal_47 : decode cX0_setGoal 47 = .ok (.iload_n 3, 1) := by decide +kernel
theorem dX0_setGoal_48 : decode cX0_setGoal 48 = .ok (.putfield 37, 3) := by decide +kernel
theorem dX0_setGoal_51 : decode cX0_setGoal 51 = .ok (.return_, 1) := by decide +kernel
theorem dX0_signedTeeth_0 : decode cX0_signedTeeth 0 = .ok (.aload_n 0, 1) := by decide +kernel
theorem dX0_signedTeeth_1 : decode cX0_signedTeeth 1 = .ok (.getfield 18, 3) := by decide +kernel
theorem dX0_signedTeeth_4 : decode cX0_signedTeeth 4 = .ok (.iload_n 1, 1) := by decide +kernel
theorem dX0_signedTeeth_5 : decode cX0_signedTeeth 5 = .ok (.iaload, 1) := by decide +kernel
theorem dX0_signedTeeth_6 : decode cX0_signedTeeth 6 = .ok (.aload_n 0, 1) := by decide +kernel
theorem dX0_signedTeeth_7 : decode cX0_signedTeeth 7 = .ok (.getfield 18, 3) := by decide +kernel
theorem dX0_signedTeeth_10 : decode cX0_signedTeeth 10 = .ok (.iload_n 2, 1) := by decide +kernel
theorem dX0_signedTeeth_11 : decode cX0_signedTeeth 11 = .ok (.iaload, 1) := by decide +kernel
theorem dX0_signedTeeth_12 : decode cX0_signedTeeth 12 = .ok (.if_icmp .ne 13, 3) := by decide +kernel
theorem dX0_signedTeeth_15 : decode cX0_signedTeeth 15 = .ok (.aload_n 0, 1) := by decide +kernel
theorem dX0_signedTeeth_16 : decode cX0_signedTeeth 16 = .ok (.getfield 21, 3) := by decide +kernel
theorem dX0_signedTeeth_19 : decode cX0_signedTeeth 19 = .ok (.iload_n 1, 1) := by decide +kernel
theorem dX0_signedTeeth_20 : decode cX0_signedTeeth 20 = .ok (.iaload, 1) := by decide +kernel
theorem dX0_signedTeeth_21 : decode cX0_signedTeeth 21 = .ok (.ineg, 1) := by decide +kernel
theorem dX0_signedTeeth_22 : decode cX0_signedTeeth 22 = .ok (.goto 9, 3) := by decide +kernel
theorem dX0_signedTeeth_25 : decode cX0_signedTeeth 25 = .ok (.aload_n 0, 1) := by decide +kernel
theorem dX0_signedTeeth_26 : decode cX0_signedTeeth 26 = .ok (.getfield 21, 3) := by decide +kernel
theorem dX0_signedTeeth_29 : decode cX0_signedTeeth 29 = .ok (.iload_n 1, 1) := by decide +kernel
theorem dX0_signedTeeth_30 : decode cX0_signedTeeth 30 = .ok (.iaload, 1) := by decide +kernel
theorem dX0_signedTeeth_31 : decode cX0_signedTeeth 31 = .ok (.ireturn, 1) := by decide +kernel
theorem dX0_squareOfDistance_0 : decode cX0_squareOfDistance 0 = .ok (.aload_n 0, 1) := by decide +kernel
theorem dX0_squareOfDistance_1 : decode cX0_squareOfDistance 1 = .ok (.getfield 9, 3) := by decide +kernel
theorem dX0_squareOfDistance_4 : decode cX0_squareOfDistance 4 = .ok (.iload_n 1, 1) := by decide +kernel
theorem dX0_squareOfDistance_5 : decode cX0_squareOfDistance 5 = .ok (.iaload, 1) := by decide +kernel
theorem dX0_squareOfDistance_6 : decode cX0_squareOfDistance 6 = .ok (.aload_n 0, 1) := by decide +kernel
theorem dX0_squareOfDistance_7 : decode cX0_squareOfDistance 7 = .ok (.getfield 9, 3) := by decide +kernel
theorem dX0_squareOfDistance_10 : decode cX0_squareOfDistance 10 = .ok (.iload_n 2, 1) := by decide +kernel
theorem dX0_squareOfDistance_11 : decode cX0_squareOfDistance 11 = .ok (.iaload, 1) := by decide +kernel
theorem dX0_squareOfDistance_12 : decode cX0_squareOfDistance 12 = .ok (.isub, 1) := by decide +kernel
theorem dX0_squareOfDistance_13 : decode cX0_squareOfDistance 13 = .ok (.istore_n 3, 1) := by decide +kernel
theorem dX0_squareOfDistance_14 : decode cX0_squareOfDistance 14 = .ok (.aload_n 0, 1) := by decide +kernel
theorem dX0_squareOfDistance_15 : decode cX0_squareOfDistance 15 = .ok (.getfield 15, 3) := by decide +kernel
theorem dX0_squareOfDistance_18 : decode cX0_squareOfDistance 18 = .ok (.iload_n 1, 1) := by decide +kernel
theorem dX0_squareOfDistance_19 : decode cX0_squareOfDistance 19 = .ok (.iaload, 1) := by decide +kernel
theorem dX0_squareOfDistance_20 : decode cX0_squareOfDistance 20 = .ok (.aload_n 0, 1) := by decide +kernel
theorem dX0_squareOfDistance_21 : decode cX0_squareOfDistance 21 = .ok (.getfield 15, 3) := by decide +kernel
theorem dX0_squareOfDistance_24 : decode cX0_squareOfDistance 24 = .ok (.iload_n 2, 1) := by decide +kernel
theorem dX0_squareOfDistance_25 : decode cX0_squareOfDistance 25 = .ok (.iaload, 1) := by decide +kernel
theorem dX0_squareOfDistance_26 : decode cX0_squareOfDistance 26 = .ok (.isub, 1) := by decide +kernel
theorem dX0_squareOfDistance_27 : decode cX0_squareOfDistance 27 = .ok (.istore 4, 2) := by decide +kernel
theorem dX0_squareOfDistance_29 : decode cX0_squareOfDistance 29 = .ok (.iload_n 3, 1) := by decide +kernel
theorem dX0_squareOfDistance_30 : decode cX0_squareOfDistance 30 = .ok (.iload_n 3, 1) := by decide +kernel
theorem dX0_squareOfDistance_31 : decode cX0_squareOfDistance 31 = .ok (.imul, 1) := by decide +kernel
theorem dX0_squareOfDistance_32 : decode cX0_squareOfDistance 32 = .ok (.iload 4, 2) := by decide +kernel
theorem dX0_squareOfDistance_34 : decode cX0_squareOfDistance 34 = .ok (.iload 4, 2) := by decide +kernel
theorem dX0_squareOfDistance_36 : decode cX0_squareOfDistance 36 = .ok (.imul, 1) := by decide +kernel
theorem dX0_squareOfDistance_37 : decode cX0_squareOfDistance 37 = .ok (.iadd, 1) := by decide +kernel
theorem dX0_squareOfDistance_38 : decode cX0_squareOfDistance 38 = .ok (.ireturn, 1) := by decide +kernel
theorem dX0_meshDistance_0 : decode cX0_meshDistance 0 = .ok (.aload_n 0, 1) := by decide +kernel
theorem dX0_meshDistance_1 : decode cX0_meshDistance 1 = .ok (.getfield 18, 3) := by decide +kernel
theorem dX0_meshDistance_4 : decode cX0_meshDistance 4 = .ok (.iload_n 1, 1) := by decide +kernel
theorem dX0_meshDistance_5 : decode cX0_meshDistance 5 = .ok (.iaload, 1) := by decide +kernel
theorem dX0_meshDistance_6 : decode cX0_meshDistance 6 = .ok (.iconst 1, 1) := by decide +kernel
theorem dX0_meshDistance_7 : decode cX0_meshDistance 7 = .ok (.if_icmp .ne 27, 3) := by decide +kernel
theorem dX0_meshDistance_10 : decode cX0_meshDistance 10 = .ok (.aload_n 0, 1) := by decide +kernel
theorem dX0_meshDistance_11 : decode cX0_meshDistance 11 = .ok (.getfield 18, 3) := by decide +kernel
theorem dX0_meshDistance_14 : decode cX0_meshDistance 14 = .ok (.iload_n 2, 1) := by decide +kernel
theorem dX0_meshDistance_15 : decode cX0_meshDistance 15 = .ok (.iaload, 1) := by decide +kernel
theorem dX0_meshDistance_16 : decode cX0_meshDistance 16 = .ok (.iconst 1, 1) := by decide +kernel
theorem dX0_meshDistance_17 : decode cX0_meshDistance 17 = .ok (.if_icmp .ne 17, 3) := by decide +kernel
theorem dX0_meshDistance_20 : decode cX0_meshDistance 20 = .ok (.aload_n 0, 1) := by decide +kernel
theorem dX0_meshDistance_21 : decode cX0_meshDistance 21 = .ok (.getfield 21, 3) := by decide +kernel
theorem dX0_meshDistance_24 : decode cX0_meshDistance 24 = .ok (.iload_n 1, 1) := by decide +kernel
theorem dX0_meshDistance_25 : decode cX0_meshDistance 25 = .ok (.iaload, 1) := by decide +kernel
theorem dX0_meshDistance_26 : decode cX0_meshDistance 26 = .ok (.aload_n 0, 1) := by decide +kernel
theorem dX0_meshDistance_27 : decode cX0_meshDistance 27 = .ok (.getfield 21, 3) := by decide +kernel
theorem dX0_meshDistance_30 : decode cX0_meshDistance 30 = .ok (.iload_n 2, 1) := by decide +kernel
theorem dX0_meshDistance_31 : decode cX0_meshDistance 31 = .ok (.iaload, 1) := by decide +kernel
theorem dX0_meshDistance_32 : decode cX0_meshDistance 32 = .ok (.iadd, 1) := by decide +kernel
theorem dX0_meshDistance_33 : decode cX0_meshDistance 33 = .ok (.ireturn, 1) := by decide +kernel
theorem dX0_meshDistance_34 : decode cX0_meshDistance 34 = .ok (.iconst 0, 1) := by decide +kernel
theorem dX0_meshDistance_35 : decode cX0_meshDistance 35 = .ok (.istore_n 3, 1) := by decide +kernel
theorem dX0_meshDistance_36 : decode cX0_meshDistance 36 = .ok (.aload_n 0, 1) := by decide +kernel
theorem dX0_meshDistance_37 : decode cX0_meshDistance 37 = .ok (.getfield 18, 3) := by decide +kernel
theorem dX0_meshDistance_40 : decode cX0_meshDistance 40 = .ok (.iload_n 1, 1) := by decide +kernel
theorem dX0_meshDistance_41 : decode cX0_meshDistance 41 = .ok (.iaload, 1) := by decide +kernel
theorem dX0_meshDistance_42 : decode cX0_meshDistance 42 = .ok (.iconst 2, 1) := by decide +kernel
theorem dX0_meshDistance_43 : decode cX0_meshDistance 43 = .ok (.if_icmp .ne 30, 3) := by decide +kernel
theorem dX0_meshDistance_46 : decode cX0_meshDistance 46 = .ok (.aload_n 0, 1) := by decide +kernel
theorem dX0_meshDistance_47 : decode cX0_meshDistance 47 = .ok (.getfield 18, 3) := by decide +kernel
theorem dX0_meshDistance_50 : decode cX0_meshDistance 50 = .ok (.iload_n 2, 1) := by decide +kernel
theorem dX0_meshDistance_51 : decode cX0_meshDistance 51 = .ok (.iaload, 1) := by decide +kernel
theorem dX0_meshDistance_52 : decode cX0_meshDistance 52 = .ok (.iconst 1, 1) := by decide +kernel
theorem dX0_meshDistance_53 : decode cX0_meshDistance 53 = .ok (.if_icmp .ne 20, 3) := by decide +kernel
theorem dX0_meshDistance_56 : decode cX0_meshDistance 56 = .ok (.aload_n 0, 1) := by decide +kernel
theorem dX0_meshDistance_57 : decode cX0_meshDistance 57 = .ok (.getfield 21, 3) := by decide +kernel
theorem dX0_meshDistance_60 : decode cX0_meshDistance 60 = .ok (.iload_n 1, 1) := by decide +kernel
theorem dX0_meshDistance_61 : decode cX0_meshDistance 61 = .ok (.iaload, 1) := by decide +kernel
theorem dX0_meshDistance_62 : decode cX0_meshDistance 62 = .ok (.aload_n 0, 1) := by decide +kernel
theorem dX0_meshDistance_63 : decode cX0_meshDistance 63 = .ok (.getfield 21, 3) := by decide +kernel
theorem dX0_meshDistance_66 : decode cX0_meshDistance 66 = .ok (.iload_n 2, 1) := by decide +kernel
theorem dX0_meshDistance_67 : decode cX0_meshDistance 67 = .ok (.iaload, 1) := by decide +kernel
theorem dX0_meshDistance_68 : decode cX0_meshDistance 68 = .ok (.isub, 1) := by decide +kernel
theorem dX0_meshDistance_69 : decode cX0_meshDistance 69 = .ok (.istore_n 3, 1) := by decide +kernel
theorem dX0_meshDistance_70 : decode cX0_meshDistance 70 = .ok (.goto 37, 3) := by decide +kernel
theorem dX0_meshDistance_73 : decode cX0_meshDistance 73 = .ok (.aload_n 0, 1) := by decide +kernel
theorem dX0_meshDistance_74 : decode cX0_meshDistance 74 = .ok (.getfield 18, 3) := by decide +kernel
theorem dX0_meshDistance_77 : decode cX0_meshDistance 77 = .ok (.iload_n 1, 1) := by decide +kernel
theorem dX0_meshDistance_78 : decode cX0_meshDistance 78 = .ok (.iaload, 1) := by decide +kernel
theorem dX0_meshDistance_79 : decode cX0_meshDistance 79 = .ok (.iconst 1, 1) := by decide +kernel
theorem dX0_meshDistance_80 : decode cX0_meshDistance 80 = .ok (.if_icmp .ne 27, 3) := by decide +kernel
theorem dX0_meshDistance_83 : decode cX0_meshDistance 83 = .ok (.aload_n 0, 1) := by decide +kernel
theorem dX0_meshDistance_84 : decode cX0_meshDistance 84 = .ok (.getfield 18, 3) := by decide +kernel
theorem dX0_meshDistance_87 : decode cX0_meshDistance 87 = .ok (.iload_n 2, 1) := by decide +kernel
theorem dX0_meshDistance_88 : decode cX0_meshDistance 88 = .ok (.iaload, 1) := by decide +kernel
theorem dX0_meshDistance_89 : decode cX0_meshDistance 89 = .ok (.iconst 2, 1) := by decide +kernel
theorem dX0_meshDistance_90 : decode cX0_meshDistance 90 = .ok (.if_icmp .ne 17, 3) := by decide +kernel
theorem dX0_meshDistance_93 : decode cX0_meshDistance 93 = .ok (.aload_n 0, 1) := by decide +kernel
theorem dX0_meshDistance_94 : decode cX0_meshDistance 94 = .ok (.getfield 21, 3) := by decide +kernel
theorem dX0_meshDistance_97 : decode cX0_meshDistance 97 = .ok (.iload_n 2, 1) := by decide +kernel
theorem dX0_meshDistance_98 : decode cX0_meshDistance 98 = .ok (.iaload, 1) := by decide +kernel
theorem dX0_meshDistance_99 : decode cX0_meshDistance 99 = .ok (.aload_n 0, 1) := by decide +kernel
theorem dX0_meshDistance_100 : decode cX0_meshDistance 100 = .ok (.getfield 21, 3) := by decide +kernel
theorem dX0_meshDistance_103 : decode cX0_meshDistance 103 = .ok (.iload_n 1, 1) := by decide +kernel
theorem dX0_meshDistance_104 : decode cX0_meshDistance 104 = .ok (.iaload, 1) := by decide +kernel
theorem dX0_meshDistance_105 : decode cX0_meshDistance 105 = .ok (.isub, 1) := by decide +kernel
theorem dX0_meshDistance_106 : decode cX0_meshDistance 106 = .ok (.istore_n 3, 1) := by decide +kernel
theorem dX0_meshDistance_107 : decode cX0_meshDistance 107 = .ok (.iload_n 3, 1) := by decide +kernel
theorem dX0_meshDistance_108 : decode cX0_meshDistance 108 = .ok (.ifCond .le 7, 3) := by decide +kernel
theorem dX0_meshDistance_111 : decode cX0_meshDistance 111 = .ok (.iload_n 3, 1) := by decide +kernel
theorem dX0_meshDistance_112 : decode cX0_meshDistance 112 = .ok (.goto 4, 3) := by decide +kernel
theorem dX0_meshDistance_115 : decode cX0_meshDistance 115 = .ok (.iconst 0, 1) := by decide +kernel
theorem dX0_meshDistance_116 : decode cX0_meshDistance 116 = .ok (.ireturn, 1) := by decide +kernel
theorem dX0_leastSquare_0 : decode cX0_leastSquare 0 = .ok (.iload_n 1, 1) := by decide +kernel
theorem dX0_leastSquare_1 : decode cX0_leastSquare 1 = .ok (.aload_n 0, 1) := by decide +kernel
theorem dX0_leastSquare_2 : decode cX0_leastSquare 2 = .ok (.getfield 40, 3) := by decide +kernel
theorem dX0_leastSquare_5 : decode cX0_leastSquare 5 = .ok (.if_icmp .le 12, 3) := by decide +kernel
theorem dX0_leastSquare_8 : decode cX0_leastSquare 8 = .ok (.iload_n 1, 1) := by decide +kernel
theorem dX0_leastSquare_9 : decode cX0_leastSquare 9 = .ok (.aload_n 0, 1) := by decide +kernel
theorem dX0_leastSquare_10 : decode cX0_leastSquare 10 = .ok (.getfield 40, 3) := by decide +kernel
theorem dX0_leastSquare_13 : decode cX0_leastSquare 13 = .ok (.isub, 1) := by decide +kernel
theorem dX0_leastSquare_14 : decode cX0_leastSquare 14 = .ok (.goto 4, 3) := by decide +kernel
theorem dX0_leastSquare_17 : decode cX0_leastSquare 17 = .ok (.iconst 0, 1) := by decide +kernel
theorem dX0_leastSquare_18 : decode cX0_leastSquare 18 = .ok (.istore_n 2, 1) := by decide +kernel
theorem dX0_leastSquare_19 : decode cX0_leastSquare 19 = .ok (.iload_n 2, 1) := by decide +kernel
theorem dX0_leastSquare_20 : decode cX0_leastSquare 20 = .ok (.iload_n 2, 1) := by decide +kernel
theorem dX0_leastSquare_21 : decode cX0_leastSquare 21 = .ok (.imul, 1) := by decide +kernel
theorem dX0_leastSquare_22 : decode cX0_leastSquare 22 = .ok (.ireturn, 1) := by decide +kernel
theorem dX0_mostSquare_0 : decode cX0_mostSquare 0 = .ok (.iload_n 1, 1) := by decide +kernel
theorem dX0_mostSquare_1 : decode cX0_mostSquare 1 = .ok (.aload_n 0, 1) := by decide +kernel
theorem dX0_mostSquare_2 : decode cX0_mostSquare 2 = .ok (.getfield 40, 3) := by decide +kernel
theorem dX0_mostSquare_5 : decode cX0_mostSquare 5 = .ok (.iadd, 1) := by decide +kernel
theorem dX0_mostSquare_6 : decode cX0_mostSquare 6 = .ok (.istore_n 2, 1) := by decide +kernel
theorem dX0_mostSquare_7 : decode cX0_mostSquare 7 = .ok (.iload_n 2, 1) := by decide +kernel
theorem dX0_mostSquare_8 : decode cX0_mostSquare 8 = .ok (.iload_n 2, 1) := by decide +kernel
theorem dX0_mostSquare_9 : decode cX0_mostSquare 9 = .ok (.imul, 1) := by decide +kernel
theorem dX0_mostSquare_10 : decode cX0_mostSquare 10 = .ok (.ireturn, 1) := by decide +kernel
theorem dX0_areMeshing_0 : decode cX0_areMeshing 0 = .ok (.iload_n 1, 1) := by decide +kernel
theorem dX0_areMeshing_1 : decode cX0_areMeshing 1 = .ok (.iload_n 2, 1) := by decide +kernel
theorem dX0_areMeshing_2 : decode cX0_areMeshing 2 = .ok (.if_icmp .ne 5, 3) := by decide +kernel
theorem dX0_areMeshing_5 : decode cX0_areMeshing 5 = .ok (.iconst 0, 1) := by decide +kernel
theorem dX0_areMeshing_6 : decode cX0_areMeshing 6 = .ok (.ireturn, 1) := by decide +kernel
theorem dX0_areMeshing_7 : decode cX0_areMeshing 7 = .ok (.aload_n 0, 1) := by decide +kernel
theorem dX0_areMeshing_8 : decode cX0_areMeshing 8 = .ok (.iload_n 1, 1) := by decide +kernel
theorem dX0_areMeshing_9 : decode cX0_areMeshing 9 = .ok (.iload_n 3, 1) := by decide +kernel
theorem dX0_areMeshing_10 : decode cX0_areMeshing 10 = .ok (.invokestatic 57, 3) := by decide +kernel
theorem dX0_areMeshing_13 : decode cX0_areMeshing 13 = .ok (.iload_n 2, 1) := by decide +kernel
theorem dX0_areMeshing_14 : decode cX0_areMeshing 14 = .ok (.iload_n 3, 1) := by decide +kernel
theorem dX0_areMeshing_15 : decode cX0_areMeshing 15 = .ok (.invokestatic 57, 3) := by decide +kernel
theorem dX0_areMeshing_18 : decode cX0_areMeshing 18 = .ok (.invokevirtual 72, 3) := by decide +kernel
theorem dX0_areMeshing_21 : decode cX0_areMeshing 21 = .ok (.istore 4, 2) := by decide +kernel
theorem dX0_areMeshing_23 : decode cX0_areMeshing 23 = .ok (.aload_n 0, 1) := by decide +kernel
theorem dX0_areMeshing_24 : decode cX0_areMeshing 24 = .ok (.iload_n 1, 1) := by decide +kernel
theorem dX0_areMeshing_25 : decode cX0_areMeshing 25 = .ok (.iload_n 2, 1) := by decide +kernel
theorem dX0_areMeshing_26 : decode cX0_areMeshing 26 = .ok (.invokevirtual 75, 3) := by decide +kernel
theorem dX0_areMeshing_29 : decode cX0_areMeshing 29 = .ok (.istore 5, 2) := by decide +kernel
theorem dX0_areMeshing_31 : decode cX0_areMeshing 31 = .ok (.iload 4, 2) := by decide +kernel
theorem dX0_areMeshing_33 : decode cX0_areMeshing 33 = .ok (.ifCond .le 29, 3) := by decide +kernel
theorem dX0_areMeshing_36 : decode cX0_areMeshing 36 = .ok (.iload 5, 2) := by decide +kernel
theorem dX0_areMeshing_38 : decode cX0_areMeshing 38 = .ok (.aload_n 0, 1) := by decide +kernel
theorem dX0_areMeshing_39 : decode cX0_areMeshing 39 = .ok (.iload 4, 2) := by decide +kernel
theorem dX0_areMeshing_41 : decode cX0_areMeshing 41 = .ok (.invokevirtual 78, 3) := by decide +kernel
theorem dX0_areMeshing_44 : decode cX0_areMeshing 44 = .ok (.if_icmp .lt 18, 3) := by decide +kernel
theorem dX0_areMeshing_47 : decode cX0_areMeshing 47 = .ok (.iload 5, 2) := by decide +kernel
theorem dX0_areMeshing_49 : decode cX0_areMeshing 49 = .ok (.aload_n 0, 1) := by decide +kernel
theorem dX0_areMeshing_50 : decode cX0_areMeshing 50 = .ok (.iload 4, 2) := by decide +kernel
theorem dX0_areMeshing_52 : decode cX0_areMeshing 52 = .ok (.invokevirtual 82, 3) := by decide +kernel
theorem dX0_areMeshing_55 : decode cX0_areMeshing 55 = .ok (.if_icmp .gt 7, 3) := by decide +kernel
theorem dX0_areMeshing_58 : decode cX0_areMeshing 58 = .ok (.iconst 1, 1) := by decide +kernel
theorem dX0_areMeshing_59 : decode cX0_areMeshing 59 = .ok (.goto 4, 3) := by decide +kernel
theorem dX0_areMeshing_62 : decode cX0_areMeshing 62 = .ok (.iconst 0, 1) := by decide +kernel
theorem dX0_areMeshing_63 : decode cX0_areMeshing 63 = .ok (.ireturn, 1) := by decide +kernel
theorem dX0_areOverlapping_0 : decode cX0_areOverlapping 0 = .ok (.iload_n 1, 1) := by decide +kernel
theorem dX0_areOverlapping_1 : decode cX0_areOverlapping 1 = .ok (.iload_n 3, 1) := by decide +kernel
theorem dX0_areOverlapping_2 : decode cX0_areOverlapping 2 = .ok (.invokestatic 57, 3) := by decide +kernel
theorem dX0_areOverlapping_5 : decode cX0_areOverlapping 5 = .ok (.istore 4, 2) := by decide +kernel
theorem dX0_areOverlapping_7 : decode cX0_areOverlapping 7 = .ok (.iload_n 2, 1) := by decide +kernel
theorem dX0_areOverlapping_8 : decode cX0_areOverlapping 8 = .ok (.iload_n 3, 1) := by decide +kernel
theorem dX0_areOverlapping_9 : decode cX0_areOverlapping 9 = .ok (.invokestatic 57, 3) := by decide +kernel
theorem dX0_areOverlapping_12 : decode cX0_areOverlapping 12 = .ok (.istore 5, 2) := by decide +kernel
theorem dX0_areOverlapping_14 : decode cX0_areOverlapping 14 = .ok (.iload_n 1, 1) := by decide +kernel
theorem dX0_areOverlapping_15 : decode cX0_areOverlapping 15 = .ok (.iload_n 2, 1) := by decide +kernel
theorem dX0_areOverlapping_16 : decode cX0_areOverlapping 16 = .ok (.if_icmp .eq 23, 3) := by decide +kernel
theorem dX0_areOverlapping_19 : decode cX0_areOverlapping 19 = .ok (.aload_n 0, 1) := by decide +kernel
theorem dX0_areOverlapping_20 : decode cX0_areOverlapping 20 = .ok (.getfield 18, 3) := by decide +kernel
theorem dX0_areOverlapping_23 : decode cX0_areOverlapping 23 = .ok (.iload 4, 2) := by decide +kernel
theorem dX0_areOverlapping_25 : decode cX0_areOverlapping 25 = .ok (.iaload, 1) := by decide +kernel
theorem dX0_areOverlapping_26 : decode cX0_areOverlapping 26 = .ok (.ifCond .eq 13, 3) := by decide +kernel
theorem dX0_areOverlapping_29 : decode cX0_areOverlapping 29 = .ok (.aload_n 0, 1) := by decide +kernel
theorem dX0_areOverlapping_30 : decode cX0_areOverlapping 30 = .ok (.getfield 18, 3) := by decide +kernel
theorem dX0_areOverlapping_33 : decode cX0_areOverlapping 33 = .ok (.iload 5, 2) := by decide +kernel
theorem dX0_areOverlapping_35 : decode cX0_areOverlapping 35 = .ok (.iaload, 1) := by decide +kernel
theorem dX0_areOverlapping_36 : decode cX0_areOverlapping 36 = .ok (.ifCond .ne 5, 3) := by decide +kernel
theorem dX0_areOverlapping_39 : decode cX0_areOverlapping 39 = .ok (.iconst 0, 1) := by decide +kernel
theorem dX0_areOverlapping_40 : decode cX0_areOverlapping 40 = .ok (.ireturn, 1) := by decide +kernel
theorem dX0_areOverlapping_41 : decode cX0_areOverlapping 41 = .ok (.aload_n 0, 1) := by decide +kernel
theorem dX0_areOverlapping_42 : decode cX0_areOverlapping 42 = .ok (.iload_n 1, 1) := by decide +kernel
theorem dX0_areOverlapping_43 : decode cX0_areOverlapping 43 = .ok (.iload_n 2, 1) := by decide +kernel
theorem dX0_areOverlapping_44 : decode cX0_areOverlapping 44 = .ok (.invokevirtual 75, 3) := by decide +kernel
theorem dX0_areOverlapping_47 : decode cX0_areOverlapping 47 = .ok (.istore 6, 2) := by decide +kernel
theorem dX0_areOverlapping_49 : decode cX0_areOverlapping 49 = .ok (.aload_n 0, 1) := by decide +kernel
theorem dX0_areOverlapping_50 : decode cX0_areOverlapping 50 = .ok (.iload 4, 2) := by decide +kernel
theorem dX0_areOverlapping_52 : decode cX0_areOverlapping 52 = .ok (.iload 5, 2) := by decide +kernel
theorem dX0_areOverlapping_54 : decode cX0_areOverlapping 54 = .ok (.invokevirtual 72, 3) := by decide +kernel
theorem dX0_areOverlapping_57 : decode cX0_areOverlapping 57 = .ok (.istore 7, 2) := by decide +kernel
theorem dX0_areOverlapping_59 : decode cX0_areOverlapping 59 = .ok (.aload_n 0, 1) := by decide +kernel
theorem dX0_areOverlapping_60 : decode cX0_areOverlapping 60 = .ok (.getfield 18, 3) := by decide +kernel
theorem dX0_areOverlapping_63 : decode cX0_areOverlapping 63 = .ok (.iload 4, 2) := by decide +kernel
theorem dX0_areOverlapping_65 : decode cX0_areOverlapping 65 = .ok (.iaload, 1) := by decide +kernel
theorem dX0_areOverlapping_66 : decode cX0_areOverlapping 66 = .ok (.aload_n 0, 1) := by decide +kernel
theorem dX0_areOverlapping_67 : decode cX0_areOverlapping 67 = .ok (.getfield 18, 3) := by decide +kernel
theorem dX0_areOverlapping_70 : decode cX0_areOverlapping 70 = .ok (.iload 5, 2) := by decide +kernel
theorem dX0_areOverlapping_72 : decode cX0_areOverlapping 72 = .ok (.iaload, 1) := by decide +kernel
theorem dX0_areOverlapping_73 : decode cX0_areOverlapping 73 = .ok (.if_icmp .ne 31, 3) := by decide +kernel
theorem dX0_areOverlapping_76 : decode cX0_areOverlapping 76 = .ok (.aload_n 0, 1) := by decide +kernel
theorem dX0_areOverlapping_77 : decode cX0_areOverlapping 77 = .ok (.getfield 18, 3) := by decide +kernel
theorem dX0_areOverlapping_80 : decode cX0_areOverlapping 80 = .ok (.iload 4, 2) := by decide +kernel
theorem dX0_areOverlapping_82 : decode cX0_areOverlapping 82 = .ok (.iaload, 1) := by decide +kernel
theorem dX0_areOverlapping_83 : decode cX0_areOverlapping 83 = .ok (.iconst 1, 1) := by decide +kernel
theorem dX0_areOverlapping_84 : decode cX0_areOverlapping 84 = .ok (.if_icmp .ne 18, 3) := by decide +kernel
theorem dX0_areOverlapping_87 : decode cX0_areOverlapping 87 = .ok (.iload 6, 2) := by decide +kernel
theorem dX0_areOverlapping_89 : decode cX0_areOverlapping 89 = .ok (.aload_n 0, 1) := by decide +kernel
theorem dX0_areOverlapping_90 : decode cX0_areOverlapping 90 = .ok (.iload 7, 2) := by decide +kernel
theorem dX0_areOverlapping_92 : decode cX0_areOverlapping 92 = .ok (.invokevirtual 78, 3) := by decide +kernel
theorem dX0_areOverlapping_95 : decode cX0_areOverlapping 95 = .ok (.if_icmp .ge 7, 3) := by decide +kernel
theorem dX0_areOverlapping_98 : decode cX0_areOverlapping 98 = .ok (.iconst 1, 1) := by decide +kernel
theorem dX0_areOverlapping_99 : decode cX0_areOverlapping 99 = .ok (.goto 4, 3) := by decide +kernel
theorem dX0_areOverlapping_102 : decode cX0_areOverlapping 102 = .ok (.iconst 0, 1) := by decide +kernel
theorem dX0_areOverlapping_103 : decode cX0_areOverlapping 103 = .ok (.ireturn, 1) := by decide +kernel
theorem dX0_areOverlapping_104 : decode cX0_areOverlapping 104 = .ok (.aload_n 0, 1) := by decide +kernel
theorem dX0_areOverlapping_105 : decode cX0_areOverlapping 105 = .ok (.getfield 21, 3) := by decide +kernel
theorem dX0_areOverlapping_108 : decode cX0_areOverlapping 108 = .ok (.iload 4, 2) := by decide +kernel
theorem dX0_areOverlapping_110 : decode cX0_areOverlapping 110 = .ok (.iaload, 1) := by decide +kernel
theorem dX0_areOverlapping_111 : decode cX0_areOverlapping 111 = .ok (.aload_n 0, 1) := by decide +kernel
theorem dX0_areOverlapping_112 : decode cX0_areOverlapping 112 = .ok (.getfield 21, 3) := by decide +kernel
theorem dX0_areOverlapping_115 : decode cX0_areOverlapping 115 = .ok (.iload 5, 2) := by decide +kernel
theorem dX0_areOverlapping_117 : decode cX0_areOverlapping 117 = .ok (.iaload, 1) := by decide +kernel
theorem dX0_areOverlapping_118 : decode cX0_areOverlapping 118 = .ok (.iadd, 1) := by decide +kernel
theorem dX0_areOverlapping_119 : decode cX0_areOverlapping 119 = .ok (.istore 8, 2) := by decide +kernel
theorem dX0_areOverlapping_121 : decode cX0_areOverlapping 121 = .ok (.iload 6, 2) := by decide +kernel
theorem dX0_areOverlapping_123 : decode cX0_areOverlapping 123 = .ok (.iload 8, 2) := by decide +kernel
theorem dX0_areOverlapping_125 : decode cX0_areOverlapping 125 = .ok (.iload 8, 2) := by decide +kernel
theorem dX0_areOverlapping_127 : decode cX0_areOverlapping 127 = .ok (.imul, 1) := by decide +kernel
theorem dX0_areOverlapping_128 : decode cX0_areOverlapping 128 = .ok (.if_icmp .ge 23, 3) := by decide +kernel
theorem dX0_areOverlapping_131 : decode cX0_areOverlapping 131 = .ok (.iload 7, 2) := by decide +kernel
theorem dX0_areOverlapping_133 : decode cX0_areOverlapping 133 = .ok (.ifCond .eq 14, 3) := by decide +kernel
theorem dX0_areOverlapping_136 : decode cX0_areOverlapping 136 = .ok (.iload 6, 2) := by decide +kernel
theorem dX0_areOverlapping_138 : decode cX0_areOverlapping 138 = .ok (.aload_n 0, 1) := by decide +kernel
theorem dX0_areOverlapping_139 : decode cX0_areOverlapping 139 = .ok (.iload 7, 2) := by decide +kernel
theorem dX0_areOverlapping_141 : decode cX0_areOverlapping 141 = .ok (.invokevirtual 82, 3) := by decide +kernel
theorem dX0_areOverlapping_144 : decode cX0_areOverlapping 144 = .ok (.if_icmp .le 7, 3) := by decide +kernel
theorem dX0_areOverlapping_147 : decode cX0_areOverlapping 147 = .ok (.iconst 1, 1) := by decide +kernel
theorem dX0_areOverlapping_148 : decode cX0_areOverlapping 148 = .ok (.goto 4, 3) := by decide +kernel
theorem dX0_areOverlapping_151 : decode cX0_areOverlapping 151 = .ok (.iconst 0, 1) := by decide +kernel
theorem dX0_areOverlapping_152 : decode cX0_areOverlapping 152 = .ok (.ireturn, 1) := by decide +kernel
theorem dX0_fits_0 : decode cX0_fits 0 = .ok (.iconst 0, 1) := by decide +kernel
theorem dX0_fits_1 : decode cX0_fits 1 = .ok (.istore_n 3, 1) := by decide +kernel
theorem dX0_fits_2 : decode cX0_fits 2 = .ok (.iload_n 3, 1) := by decide +kernel
theorem dX0_fits_3 : decode cX0_fits 3 = .ok (.aload_n 0, 1) := by decide +kernel
theorem dX0_fits_4 : decode cX0_fits 4 = .ok (.getfield 24, 3) := by decide +kernel
theorem dX0_fits_7 : decode cX0_fits 7 = .ok (.if_icmp .ge 21, 3) := by decide +kernel
theorem dX0_fits_10 : decode cX0_fits 10 = .ok (.aload_n 0, 1) := by decide +kernel
theorem dX0_fits_11 : decode cX0_fits 11 = .ok (.iload_n 1, 1) := by decide +kernel
theorem dX0_fits_12 : decode cX0_fits 12 = .ok (.iload_n 3, 1) := by decide +kernel
theorem dX0_fits_13 : decode cX0_fits 13 = .ok (.iload_n 2, 1) := by decide +kernel
theorem dX0_fits_14 : decode cX0_fits 14 = .ok (.invokevirtual 85, 3) := by decide +kernel
theorem dX0_fits_17 : decode cX0_fits 17 = .ok (.ifCond .eq 5, 3) := by decide +kernel
theorem dX0_fits_20 : decode cX0_fits 20 = .ok (.iconst 0, 1) := by decide +kernel
theorem dX0_fits_21 : decode cX0_fits 21 = .ok (.ireturn, 1) := by decide +kernel
theorem dX0_fits_22 : decode cX0_fits 22 = .ok (.iinc 3 1, 3) := by decide +kernel
theorem dX0_fits_25 : decode cX0_fits 25 = .ok (.goto (-23), 3) := by decide +kernel
theorem dX0_fits_28 : decode cX0_fits 28 = .ok (.iconst 1, 1) := by decide +kernel
theorem dX0_fits_29 : decode cX0_fits 29 = .ok (.ireturn, 1) := by decide +kernel
theorem dX0_meshesOnLevel_0 : decode cX0_meshesOnLevel 0 = .ok (.iconst 0, 1) := by decide +kernel
theorem dX0_meshesOnLevel_1 : decode cX0_meshesOnLevel 1 = .ok (.istore_n 3, 1) := by decide +kernel
theorem dX0_meshesOnLevel_2 : decode cX0_meshesOnLevel 2 = .ok (.iconst 0, 1) := by decide +kernel
theorem dX0_meshesOnLevel_3 : decode cX0_meshesOnLevel 3 = .ok (.istore 4, 2) := by decide +kernel
theorem dX0_meshesOnLevel_5 : decode cX0_meshesOnLevel 5 = .ok (.iload 4, 2) := by decide +kernel
theorem dX0_meshesOnLevel_7 : decode cX0_meshesOnLevel 7 = .ok (.aload_n 0, 1) := by decide +kernel
theorem dX0_meshesOnLevel_8 : decode cX0_meshesOnLevel 8 = .ok (.getfield 24, 3) := by decide +kernel
theorem dX0_meshesOnLevel_11 : decode cX0_meshesOnLevel 11 = .ok (.if_icmp .ge 23, 3) := by decide +kernel
theorem dX0_meshesOnLevel_14 : decode cX0_meshesOnLevel 14 = .ok (.aload_n 0, 1) := by decide +kernel
theorem dX0_meshesOnLevel_15 : decode cX0_meshesOnLevel 15 = .ok (.iload_n 1, 1) := by decide +kernel
theorem dX0_meshesOnLevel_16 : decode cX0_meshesOnLevel 16 = .ok (.iload 4, 2) := by decide +kernel
theorem dX0_meshesOnLevel_18 : decode cX0_meshesOnLevel 18 = .ok (.iload_n 2, 1) := by decide +kernel
theorem dX0_meshesOnLevel_19 : decode cX0_meshesOnLevel 19 = .ok (.invokevirtual 89, 3) := by decide +kernel
theorem dX0_meshesOnLevel_22 : decode cX0_meshesOnLevel 22 = .ok (.ifCond .eq 6, 3) := by decide +kernel
theorem dX0_meshesOnLevel_25 : decode cX0_meshesOnLevel 25 = .ok (.iinc 3 1, 3) := by decide +kernel
theorem dX0_meshesOnLevel_28 : decode cX0_meshesOnLevel 28 = .ok (.iinc 4 1, 3) := by decide +kernel
theorem dX0_meshesOnLevel_31 : decode cX0_meshesOnLevel 31 = .ok (.goto (-26), 3) := by decide +kernel
theorem dX0_meshesOnLevel_34 : decode cX0_meshesOnLevel 34 = .ok (.iload_n 3, 1) := by decide +kernel
theorem dX0_meshesOnLevel_35 : decode cX0_meshesOnLevel 35 = .ok (.ireturn, 1) := by decide +kernel
theorem dX0_things_0 : decode cX0_things 0 = .ok (.iconst 0, 1) := by decide +kernel
theorem dX0_things_1 : decode cX0_things 1 = .ok (.istore_n 2, 1) := by decide +kernel
theorem dX0_things_2 : decode cX0_things 2 = .ok (.iconst 0, 1) := by decide +kernel
theorem dX0_things_3 : decode cX0_things 3 = .ok (.istore_n 3, 1) := by decide +kernel
theorem dX0_things_4 : decode cX0_things 4 = .ok (.iload_n 3, 1) := by decide +kernel
theorem dX0_things_5 : decode cX0_things 5 = .ok (.aload_n 0, 1) := by decide +kernel
theorem dX0_things_6 : decode cX0_things 6 = .ok (.getfield 24, 3) := by decide +kernel
theorem dX0_things_9 : decode cX0_things 9 = .ok (.if_icmp .ge 42, 3) := by decide +kernel
theorem dX0_things_12 : decode cX0_things 12 = .ok (.iconst 0, 1) := by decide +kernel
theorem dX0_things_13 : decode cX0_things 13 = .ok (.istore 4, 2) := by decide +kernel
theorem dX0_things_15 : decode cX0_things 15 = .ok (.iload 4, 2) := by decide +kernel
theorem dX0_things_17 : decode cX0_things 17 = .ok (.iconst 2, 1) := by decide +kernel
theorem dX0_things_18 : decode cX0_things 18 = .ok (.if_icmp .ge 27, 3) := by decide +kernel
theorem dX0_things_21 : decode cX0_things 21 = .ok (.aload_n 0, 1) := by decide +kernel
theorem dX0_things_22 : decode cX0_things 22 = .ok (.getfield 18, 3) := by decide +kernel
theorem dX0_things_25 : decode cX0_things 25 = .ok (.iload_n 3, 1) := by decide +kernel
theorem dX0_things_26 : decode cX0_things 26 = .ok (.iload 4, 2) := by decide +kernel
theorem dX0_things_28 : decode cX0_things 28 = .ok (.invokestatic 57, 3) := by decide +kernel
theorem dX0_things_31 : decode cX0_things 31 = .ok (.iaload, 1) := by decide +kernel
theorem dX0_things_32 : decode cX0_things 32 = .ok (.iload_n 1, 1) := by decide +kernel
theorem dX0_things_33 : decode cX0_things 33 = .ok (.if_icmp .ne 6, 3) := by decide +kernel
theorem dX0_things_36 : decode cX0_things 36 = .ok (.iinc 2 1, 3) := by decide +kernel
theorem dX0_things_39 : decode cX0_things 39 = .ok (.iinc 4 1, 3) := by decide +kernel
theorem dX0_things_42 : decode cX0_things 42 = .ok (.goto (-27), 3) := by decide +kernel
theorem dX0_things_45 : decode cX0_things 45 = .ok (.iinc 3 1, 3) := by decide +kernel
theorem dX0_things_48 : decode cX0_things 48 = .ok (.goto (-44), 3) := by decide +kernel
theorem dX0_things_51 : decode cX0_things 51 = .ok (.iload_n 2, 1) := by decide +kernel
theorem dX0_things_52 : decode cX0_things 52 = .ok (.ireturn, 1) := by decide +kernel
theorem dX0_overlaps_0 : decode cX0_overlaps 0 = .ok (.iconst 0, 1) := by decide +kernel
theorem dX0_overlaps_1 : decode cX0_overlaps 1 = .ok (.istore_n 1, 1) := by decide +kernel
theorem dX0_overlaps_2 : decode cX0_overlaps 2 = .ok (.iconst 0, 1) := by decide +kernel
theorem dX0_overlaps_3 : decode cX0_overlaps 3 = .ok (.istore_n 2, 1) := by decide +kernel
theorem dX0_overlaps_4 : decode cX0_overlaps 4 = .ok (.iload_n 2, 1) := by decide +kernel
theorem dX0_overlaps_5 : decode cX0_overlaps 5 = .ok (.aload_n 0, 1) := by decide +kernel
theorem dX0_overlaps_6 : decode cX0_overlaps 6 = .ok (.getfield 24, 3) := by decide +kernel
theorem dX0_overlaps_9 : decode cX0_overlaps 9 = .ok (.if_icmp .ge 56, 3) := by decide +kernel
theorem dX0_overlaps_12 : decode cX0_overlaps 12 = .ok (.iload_n 2, 1) := by decide +kernel
theorem dX0_overlaps_13 : decode cX0_overlaps 13 = .ok (.iconst 1, 1) := by decide +kernel
theorem dX0_overlaps_14 : decode cX0_overlaps 14 = .ok (.iadd, 1) := by decide +kernel
theorem dX0_overlaps_15 : decode cX0_overlaps 15 = .ok (.istore_n 3, 1) := by decide +kernel
theorem dX0_overlaps_16 : decode cX0_overlaps 16 = .ok (.iload_n 3, 1) := by decide +kernel
theorem dX0_overlaps_17 : decode cX0_overlaps 17 = .ok (.aload_n 0, 1) := by decide +kernel
theorem dX0_overlaps_18 : decode cX0_overlaps 18 = .ok (.getfield 24, 3) := by decide +kernel
theorem dX0_overlaps_21 : decode cX0_overlaps 21 = .ok (.if_icmp .ge 38, 3) := by decide +kernel
theorem dX0_overlaps_24 : decode cX0_overlaps 24 = .ok (.iconst 0, 1) := by decide +kernel
theorem dX0_overlaps_25 : decode cX0_overlaps 25 = .ok (.istore 4, 2) := by decide +kernel
theorem dX0_overlaps_27 : decode cX0_overlaps 27 = .ok (.iload 4, 2) := by decide +kernel
theorem dX0_overlaps_29 : decode cX0_overlaps 29 = .ok (.iconst 2, 1) := by decide +kernel
theorem dX0_overlaps_30 : decode cX0_overlaps 30 = .ok (.if_icmp .ge 23, 3) := by decide +kernel
theorem dX0_overlaps_33 : decode cX0_overlaps 33 = .ok (.aload_n 0, 1) := by decide +kernel
theorem dX0_overlaps_34 : decode cX0_overlaps 34 = .ok (.iload_n 2, 1) := by decide +kernel
theorem dX0_overlaps_35 : decode cX0_overlaps 35 = .ok (.iload_n 3, 1) := by decide +kernel
theorem dX0_overlaps_36 : decode cX0_overlaps 36 = .ok (.iload 4, 2) := by decide +kernel
theorem dX0_overlaps_38 : decode cX0_overlaps 38 = .ok (.invokevirtual 85, 3) := by decide +kernel
theorem dX0_overlaps_41 : decode cX0_overlaps 41 = .ok (.ifCond .eq 6, 3) := by decide +kernel
theorem dX0_overlaps_44 : decode cX0_overlaps 44 = .ok (.iinc 1 1, 3) := by decide +kernel
theorem dX0_overlaps_47 : decode cX0_overlaps 47 = .ok (.iinc 4 1, 3) := by decide +kernel
theorem dX0_overlaps_50 : decode cX0_overlaps 50 = .ok (.goto (-23), 3) := by decide +kernel
theorem dX0_overlaps_53 : decode cX0_overlaps 53 = .ok (.iinc 3 1, 3) := by decide +kernel
theorem dX0_overlaps_56 : decode cX0_overlaps 56 = .ok (.goto (-40), 3) := by decide +kernel
theorem dX0_overlaps_59 : decode cX0_overlaps 59 = .ok (.iinc 2 1, 3) := by decide +kernel
theorem dX0_overlaps_62 : decode cX0_overlaps 62 = .ok (.goto (-58), 3) := by decide +kernel
theorem dX0_overlaps_65 : decode cX0_overlaps 65 = .ok (.iload_n 1, 1) := by decide +kernel
theorem dX0_overlaps_66 : decode cX0_overlaps 66 = .ok (.ireturn, 1) := by decide +kernel
theorem dX1_init_0 : decode cX1_init 0 = .ok (.aload_n 0, 1) := by decide +kernel
theorem dX1_init_1 : decode cX1_init 1 = .ok (.invokespecial 3, 3) := by decide +kernel
theorem dX1_init_4 : decode cX1_init 4 = .ok (.aload_n 0, 1) := by decide +kernel
theorem dX1_init_5 : decode cX1_init 5 = .ok (.bipush 6, 2) := by decide +kernel
theorem dX1_init_7 : decode cX1_init 7 = .ok (.anewarray 9, 3) := by decide +kernel
theorem dX1_init_10 : decode cX1_init 10 = .ok (.putfield 11, 3) := by decide +kernel
theorem dX1_init_13 : decode cX1_init 13 = .ok (.aload_n 0, 1) := by decide +kernel
theorem dX1_init_14 : decode cX1_init 14 = .ok (.iconst 0, 1) := by decide +kernel
theorem dX1_init_15 : decode cX1_init 15 = .ok (.putfield 17, 3) := by decide +kernel
theorem dX1_init_18 : decode cX1_init 18 = .ok (.aload_n 0, 1) := by decide +kernel
theorem dX1_init_19 : decode cX1_init 19 = .ok (.iconst 0, 1) := by decide +kernel
theorem dX1_init_20 : decode cX1_init 20 = .ok (.putfield 21, 3) := by decide +kernel
theorem dX1_init_23 : decode cX1_init 23 = .ok (.return_, 1) := by decide +kernel
theorem dX1_save_0 : decode cX1_save 0 = .ok (.aload_n 0, 1) := by decide +kernel
theorem dX1_save_1 : decode cX1_save 1 = .ok (.getfield 21, 3) := by decide +kernel
theorem dX1_save_4 : decode cX1_save 4 = .ok (.bipush 6, 2) := by decide +kernel
theorem dX1_save_6 : decode cX1_save 6 = .ok (.if_icmp .ne 26, 3) := by decide +kernel
theorem dX1_save_9 : decode cX1_save 9 = .ok (.aload_n 0, 1) := by decide +kernel
theorem dX1_save_10 : decode cX1_save 10 = .ok (.aload_n 0, 1) := by decide +kernel
theorem dX1_save_11 : decode cX1_save 11 = .ok (.getfield 17, 3) := by decide +kernel
theorem dX1_save_14 : decode cX1_save 14 = .ok (.iconst 1, 1) := by decide +kernel
theorem dX1_save_15 : decode cX1_save 15 = .ok (.iadd, 1) := by decide +kernel
theorem dX1_save_16 : decode cX1_save 16 = .ok (.bipush 6, 2) := by decide +kernel
theorem dX1_save_18 : decode cX1_save 18 = .ok (.irem, 1) := by decide +kernel
theorem dX1_save_19 : decode cX1_save 19 = .ok (.putfield 17, 3) := by decide +kernel
theorem dX1_save_22 : decode cX1_save 22 = .ok (.aload_n 0, 1) := by decide +kernel
theorem dX1_save_23 : decode cX1_save 23 = .ok (.dup, 1) := by decide +kernel
theorem dX1_save_24 : decode cX1_save 24 = .ok (.getfield 21, 3) := by decide +kernel
theorem dX1_save_27 : decode cX1_save 27 = .ok (.iconst 1, 1) := by decide +kernel
theorem dX1_save_28 : decode cX1_save 28 = .ok (.isub, 1) := by decide +kernel
theorem dX1_save_29 : decode cX1_save 29 = .ok (.putfield 21, 3) := by decide +kernel
theorem dX1_save_32 : decode cX1_save 32 = .ok (.aload_n 0, 1) := by decide +kernel
theorem dX1_save_33 : decode cX1_save 33 = .ok (.getfield 17, 3) := by decide +kernel
theorem dX1_save_36 : decode cX1_save 36 = .ok (.aload_n 0, 1) := by decide +kernel
theorem dX1_save_37 : decode cX1_save 37 = .ok (.getfield 21, 3) := by decide +kernel
theorem dX1_save_40 : decode cX1_save 40 = .ok (.iadd, 1) := by decide +kernel
theorem dX1_save_41 : decode cX1_save 41 = .ok (.bipush 6, 2) := by decide +kernel
theorem dX1_save_43 : decode cX1_save 43 = .ok (.irem, 1) := by decide +kernel
theorem dX1_save_44 : decode cX1_save 44 = .ok (.istore_n 2, 1) := by decide +kernel
theorem dX1_save_45 : decode cX1_save 45 = .ok (.aload_n 0, 1) := by decide +kernel
theorem dX1_save_46 : decode cX1_save 46 = .ok (.getfield 11, 3) := by decide +kernel
theorem dX1_save_49 : decode cX1_save 49 = .ok (.iload_n 2, 1) := by decide +kernel
theorem dX1_save_50 : decode cX1_save 50 = .ok (.aaload, 1) := by decide +kernel
theorem dX1_save_51 : decode cX1_save 51 = .ok (.astore_n 3, 1) := by decide +kernel
theorem dX1_save_52 : decode cX1_save 52 = .ok (.aload_n 3, 1) := by decide +kernel
theorem dX1_save_53 : decode cX1_save 53 = .ok (.ifnonnull 18, 3) := by decide +kernel
theorem dX1_save_56 : decode cX1_save 56 = .ok (.new 9, 3) := by decide +kernel
theorem dX1_save_59 : decode cX1_save 59 = .ok (.dup, 1) := by decide +kernel
theorem dX1_save_60 : decode cX1_save 60 = .ok (.invokespecial 24, 3) := by decide +kernel
theorem dX1_save_63 : decode cX1_save 63 = .ok (.astore_n 3, 1) := by decide +kernel
theorem dX1_save_64 : decode cX1_save 64 = .ok (.aload_n 0, 1) := by decide +kernel
theorem dX1_save_65 : decode cX1_save 65 = .ok (.getfield 11, 3) := by decide +kernel
theorem dX1_save_68 : decode cX1_save 68 = .ok (.iload_n 2, 1) := by decide +kernel
theorem dX1_save_69 : decode cX1_save 69 = .ok (.aload_n 3, 1) := by decide +kernel
theorem dX1_save_70 : decode cX1_save 70 = .ok (.aastore, 1) := by decide +kernel
theorem dX1_save_71 : decode cX1_save 71 = .ok (.aload_n 3, 1) := by decide +kernel
theorem dX1_save_72 : decode cX1_save 72 = .ok (.aload_n 1, 1) := by decide +kernel
theorem dX1_save_73 : decode cX1_save 73 = .ok (.invokevirtual 25, 3) := by decide +kernel
theorem dX1_save_76 : decode cX1_save 76 = .ok (.aload_n 0, 1) := by decide +kernel
theorem dX1_save_77 : decode cX1_save 77 = .ok (.dup, 1) := by decide +kernel
theorem dX1_save_78 : decode cX1_save 78 = .ok (.getfield 21, 3) := by decide +kernel
theorem dX1_save_81 : decode cX1_save 81 = .ok (.iconst 1, 1) := by decide +kernel
theorem dX1_save_82 : decode cX1_save 82 = .ok (.iadd, 1) := by decide +kernel
theorem dX1_save_83 : decode cX1_save 83 = .ok (.putfield 21, 3) := by decide +kernel
theorem dX1_save_86 : decode cX1_save 86 = .ok (.return_, 1) := by decide +kernel
theorem dX1_tryRestore_0 : decode cX1_tryRestore 0 = .ok (.aload_n 0, 1) := by decide +kernel
theorem dX1_tryRestore_1 : decode cX1_tryRestore 1 = .ok (.getfield 21, 3) := by decide +kernel
theorem dX1_tryRestore_4 : decode cX1_tryRestore 4 = .ok (.ifCond .ne 5, 3) := by decide +kernel
theorem dX1_tryRestore_7 : decode cX1_tryRestore 7 = .ok (.iconst 0, 1) := by decide +kernel
theorem dX1_tryRestore_8 : decode cX1_tryRestore 8 = .ok (.ireturn, 1) := by decide +kernel
theorem dX1_tryRestore_9 : decode cX1_tryRestore 9 = .ok (.aload_n 0, 1) := by decide +kernel
theorem dX1_tryRestore_10 : decode cX1_tryRestore 10 = .ok (.getfield 11, 3) := by decide +kernel
theorem dX1_tryRestore_13 : decode cX1_tryRestore 13 = .ok (.aload_n 0, 1) := by decide +kernel
theorem dX1_tryRestore_14 : decode cX1_tryRestore 14 = .ok (.getfield 17, 3) := by decide +kernel
theorem dX1_tryRestore_17 : decode cX1_tryRestore 17 = .ok (.aload_n 0, 1) := by decide +kernel
theorem dX1_tryRestore_18 : decode cX1_tryRestore 18 = .ok (.getfield 21, 3) := by decide +kernel
theorem dX1_tryRestore_21 : decode cX1_tryRestore 21 = .ok (.iadd, 1) := by decide +kernel
theorem dX1_tryRestore_22 : decode cX1_tryRestore 22 = .ok (.iconst 1, 1) := by decide +kernel
theorem dX1_tryRestore_23 : decode cX1_tryRestore 23 = .ok (.isub, 1) := by decide +kernel
theorem dX1_tryRestore_24 : decode cX1_tryRestore 24 = .ok (.bipush 6, 2) := by decide +kernel
theorem dX1_tryRestore_26 : decode cX1_tryRestore 26 = .ok (.irem, 1) := by decide +kernel
theorem dX1_tryRestore_27 : decode cX1_tryRestore 27 = .ok (.aaload, 1) := by decide +kernel
theorem dX1_tryRestore_28 : decode cX1_tryRestore 28 = .ok (.astore_n 2, 1) := by decide +kernel
theorem dX1_tryRestore_29 : decode cX1_tryRestore 29 = .ok (.aload_n 2, 1) := by decide +kernel
theorem dX1_tryRestore_30 : decode cX1_tryRestore 30 = .ok (.ifnonnull 5, 3) := by decide +kernel
theorem dX1_tryRestore_33 : decode cX1_tryRestore 33 = .ok (.iconst 0, 1) := by decide +kernel
theorem dX1_tryRestore_34 : decode cX1_tryRestore 34 = .ok (.ireturn, 1) := by decide +kernel
theorem dX1_tryRestore_35 : decode cX1_tryRestore 35 = .ok (.aload_n 1, 1) := by decide +kernel
theorem dX1_tryRestore_36 : decode cX1_tryRestore 36 = .ok (.aload_n 2, 1) := by decide +kernel
theorem dX1_tryRestore_37 : decode cX1_tryRestore 37 = .ok (.invokevirtual 25, 3) := by decide +kernel
theorem dX1_tryRestore_40 : decode cX1_tryRestore 40 = .ok (.aload_n 0, 1) := by decide +kernel
theorem dX1_tryRestore_41 : decode cX1_tryRestore 41 = .ok (.dup, 1) := by decide +kernel
theorem dX1_tryRestore_42 : decode cX1_tryRestore 42 = .ok (.getfield 21, 3) := by decide +kernel
theorem dX1_tryRestore_45 : decode cX1_tryRestore 45 = .ok (.iconst 1, 1) := by decide +kernel
theorem dX1_tryRestore_46 : decode cX1_tryRestore 46 = .ok (.isub, 1) := by decide +kernel
theorem dX1_tryRestore_47 : decode cX1_tryRestore 47 = .ok (.putfield 21, 3) := by decide +kernel
theorem dX1_tryRestore_50 : decode cX1_tryRestore 50 = .ok (.iconst 1, 1) := by decide +kernel
theorem dX1_tryRestore_51 : decode cX1_tryRestore 51 = .ok (.ireturn, 1) := by decide +kernel
theorem dX2_init_0 : decode cX2_init 0 = .ok (.aload_n 0, 1) := by decide +kernel
theorem dX2_init_1 : decode cX2_init 1 = .ok (.invokespecial 3, 3) := by decide +kernel
theorem dX2_init_4 : decode cX2_init 4 = .ok (.aload_n 0, 1) := by decide +kernel
theorem dX2_init_5 : decode cX2_init 5 = .ok (.bipush 9, 2) := by decide +kernel
theorem dX2_init_7 : decode cX2_init 7 = .ok (.newarray .int, 2) := by decide +kernel
theorem dX2_init_9 : decode cX2_init 9 = .ok (.putfield 9, 3) := by decide +kernel
theorem dX2_init_12 : decode cX2_init 12 = .ok (.aload_n 0, 1) := by decide +kernel
theorem dX2_init_13 : decode cX2_init 13 = .ok (.bipush 9, 2) := by decide +kernel
theorem dX2_init_15 : decode cX2_init 15 = .ok (.newarray .int, 2) := by decide +kernel
theorem dX2_init_17 : decode cX2_init 17 = .ok (.putfield 15, 3) := by decide +kernel
theorem dX2_init_20 : decode cX2_init 20 = .ok (.aload_n 0, 1) := by decide +kernel
theorem dX2_init_21 : decode cX2_init 21 = .ok (.iconst 0, 1) := by decide +kernel
theorem dX2_init_22 : decode cX2_init 22 = .ok (.putfield 18, 3) := by decide +kernel
theorem dX2_init_25 : decode cX2_init 25 = .ok (.aload_n 0, 1) := by decide +kernel
theorem dX2_init_26 : decode cX2_init 26 = .ok (.iconst 0, 1) := by decide +kernel
theorem dX2_init_27 : decode cX2_init 27 = .ok (.putfield 22, 3) := by decide +kernel
theorem dX2_init_30 : decode cX2_init 30 = .ok (.aload_n 0, 1) := by decide +kernel
theorem dX2_init_31 : decode cX2_init 31 = .ok (.lconst 0, 1) := by decide +kernel
theorem dX2_init_32 : decode cX2_init 32 = .ok (.putfield 25, 3) := by decide +kernel
theorem dX2_init_35 : decode cX2_init 35 = .ok (.aload_n 0, 1) := by decide +kernel
theorem dX2_init_36 : decode cX2_init 36 = .ok (.lconst 1, 1) := by decide +kernel
theorem dX2_init_37 : decode cX2_init 37 = .ok (.putfield 29, 3) := by decide +kernel
theorem dX2_init_40 : decode cX2_init 40 = .ok (.return_, 1) := by decide +kernel
theorem dX2_find_0 : decode cX2_find 0 = .ok (.aload_n 0, 1) := by decide +kernel
theorem dX2_find_1 : decode cX2_find 1 = .ok (.iconst 0, 1) := by decide +kernel
theorem dX2_find_2 : decode cX2_find 2 = .ok (.putfield 18, 3) := by decide +kernel
theorem dX2_find_5 : decode cX2_find 5 = .ok (.aload_n 0, 1) := by decide +kernel
theorem dX2_find_6 : decode cX2_find 6 = .ok (.iconst 0, 1) := by decide +kernel
theorem dX2_find_7 : decode cX2_find 7 = .ok (.putfield 22, 3) := by decide +kernel
theorem dX2_find_10 : decode cX2_find 10 = .ok (.aload_n 0, 1) := by decide +kernel
theorem dX2_find_11 : decode cX2_find 11 = .ok (.lconst 0, 1) := by decide +kernel
theorem dX2_find_12 : decode cX2_find 12 = .ok (.putfield 25, 3) := by decide +kernel
theorem dX2_find_15 : decode cX2_find 15 = .ok (.aload_n 0, 1) := by decide +kernel
theorem dX2_find_16 : decode cX2_find 16 = .ok (.lconst 1, 1) := by decide +kernel
theorem dX2_find_17 : decode cX2_find 17 = .ok (.putfield 29, 3) := by decide +kernel
theorem dX2_find_20 : decode cX2_find 20 = .ok (.aload_n 0, 1) := by decide +kernel
theorem dX2_find_21 : decode cX2_find 21 = .ok (.aload_n 1, 1) := by decide +kernel
theorem dX2_find_22 : decode cX2_find 22 = .ok (.aload_n 2, 1) := by decide +kernel
theorem dX2_find_23 : decode cX2_find 23 = .ok (.iload 4, 2) := by decide +kernel
theorem dX2_find_25 : decode cX2_find 25 = .ok (.invokevirtual 32, 3) := by decide +kernel
theorem dX2_find_28 : decode cX2_find 28 = .ok (.aload_n 0, 1) := by decide +kernel
theorem dX2_find_29 : decode cX2_find 29 = .ok (.getfield 15, 3) := by decide +kernel
theorem dX2_find_32 : decode cX2_find 32 = .ok (.iload_n 3, 1) := by decide +kernel
theorem dX2_find_33 : decode cX2_find 33 = .ok (.iaload, 1) := by decide +kernel
theorem dX2_find_34 : decode cX2_find 34 = .ok (.iconst (-1), 1) := by decide +kernel
theorem dX2_find_35 : decode cX2_find 35 = .ok (.if_icmp .ne 4, 3) := by decide +kernel
theorem dX2_find_38 : decode cX2_find 38 = .ok (.return_, 1) := by decide +kernel
theorem dX2_find_39 : decode cX2_find 39 = .ok (.aload_n 0, 1) := by decide +kernel
theorem dX2_find_40 : decode cX2_find 40 = .ok (.lconst 1, 1) := by decide +kernel
theorem dX2_find_41 : decode cX2_find 41 = .ok (.putfield 25, 3) := by decide +kernel
theorem dX2_find_44 : decode cX2_find 44 = .ok (.aload_n 0, 1) := by decide +kernel
theorem dX2_find_45 : decode cX2_find 45 = .ok (.getfield 9, 3) := by decide +kernel
theorem dX2_find_48 : decode cX2_find 48 = .ok (.iconst 0, 1) := by decide +kernel
theorem dX2_find_49 : decode cX2_find 49 = .ok (.iload_n 3, 1) := by decide +kernel
theorem dX2_find_50 : decode cX2_find 50 = .ok (.iastore, 1) := by decide +kernel
theorem dX2_find_51 : decode cX2_find 51 = .ok (.aload_n 0, 1) := by decide +kernel
theorem dX2_find_52 : decode cX2_find 52 = .ok (.iconst 1, 1) := by decide +kernel
theorem dX2_find_53 : decode cX2_find 53 = .ok (.putfield 18, 3) := by decide +kernel
theorem dX2_find_56 : decode cX2_find 56 = .ok (.aload_n 0, 1) := by decide +kernel
theorem dX2_find_57 : decode cX2_find 57 = .ok (.getfield 15, 3) := by decide +kernel
theorem dX2_find_60 : decode cX2_find 60 = .ok (.iload_n 3, 1) := by decide +kernel
theorem dX2_find_61 : decode cX2_find 61 = .ok (.iaload, 1) := by decide +kernel
theorem dX2_find_62 : decode cX2_find 62 = .ok (.iconst 1, 1) := by decide +kernel
theorem dX2_find_63 : decode cX2_find 63 = .ok (.isub, 1) := by decide +kernel
theorem dX2_find_64 : decode cX2_find 64 = .ok (.istore 5, 2) := by decide +kernel
theorem dX2_find_66 : decode cX2_find 66 = .ok (.iload 5, 2) := by decide +kernel
theorem dX2_find_68 : decode cX2_find 68 = .ok (.ifCond .lt 26, 3) := by decide +kernel
theorem dX2_find_71 : decode cX2_find 71 = .ok (.aload_n 0, 1) := by decide +kernel
theorem dX2_find_72 : decode cX2_find 72 = .ok (.getfield 18, 3) := by decide +kernel
theorem dX2_find_75 : decode cX2_find 75 = .ok (.bipush 9, 2) := by decide +kernel
theorem dX2_find_77 : decode cX2_find 77 = .ok (.if_icmp .ge 17, 3) := by decide +kernel
theorem dX2_find_80 : decode cX2_find 80 = .ok (.aload_n 0, 1) := by decide +kernel
theorem dX2_find_81 : decode cX2_find 81 = .ok (.aload_n 1, 1) := by decide +kernel
theorem dX2_find_82 : decode cX2_find 82 = .ok (.aload_n 2, 1) := by decide +kernel
theorem dX2_find_83 : decode cX2_find 83 = .ok (.iload 5, 2) := by decide +kernel
theorem dX2_find_85 : decode cX2_find 85 = .ok (.invokevirtual 36, 3) := by decide +kernel
theorem dX2_find_88 : decode cX2_find 88 = .ok (.iinc 5 (-1), 3) := by decide +kernel
theorem dX2_find_91 : decode cX2_find 91 = .ok (.goto (-25), 3) := by decide +kernel
theorem dX2_find_94 : decode cX2_find 94 = .ok (.iconst 1, 1) := by decide +kernel
theorem dX2_find_95 : decode cX2_find 95 = .ok (.istore 5, 2) := by decide +kernel
theorem dX2_find_97 : decode cX2_find 97 = .ok (.iload 5, 2) := by decide +kernel
theorem dX2_find_99 : decode cX2_find 99 = .ok (.iconst 1, 1) := by decide +kernel
theorem dX2_find_100 : decode cX2_find 100 = .ok (.iadd, 1) := by decide +kernel
theorem dX2_find_101 : decode cX2_find 101 = .ok (.aload_n 0, 1) := by decide +kernel
theorem dX2_find_102 : decode cX2_find 102 = .ok (.getfield 18, 3) := by decide +kernel
theorem dX2_find_105 : decode cX2_find 105 = .ok (.if_icmp .ge 38, 3) := by decide +kernel
theorem dX2_find_108 : decode cX2_find 108 = .ok (.aload_n 0, 1) := by decide +kernel
theorem dX2_find_109 : decode cX2_find 109 = .ok (.aload_n 2, 1) := by decide +kernel
theorem dX2_find_110 : decode cX2_find 110 = .ok (.iload 5, 2) := by decide +kernel
theorem dX2_find_112 : decode cX2_find 112 = .ok (.iconst 1, 1) := by decide +kernel
theorem dX2_find_113 : decode cX2_find 113 = .ok (.isub, 1) := by decide +kernel
theorem dX2_find_114 : decode cX2_find 114 = .ok (.invokevirtual 39, 3) := by decide +kernel
theorem dX2_find_117 : decode cX2_find 117 = .ok (.aload_n 0, 1) := by decide +kernel
theorem dX2_find_118 : decode cX2_find 118 = .ok (.aload_n 2, 1) := by decide +kernel
theorem dX2_find_119 : decode cX2_find 119 = .ok (.iload 5, 2) := by decide +kernel
theorem dX2_find_121 : decode cX2_find 121 = .ok (.invokevirtual 39, 3) := by decide +kernel
theorem dX2_find_124 : decode cX2_find 124 = .ok (.if_icmp .ne 13, 3) := by decide +kernel
theorem dX2_find_127 : decode cX2_find 127 = .ok (.aload_n 0, 1) := by decide +kernel
theorem dX2_find_128 : decode cX2_find 128 = .ok (.dup, 1) := by decide +kernel
theorem dX2_find_129 : decode cX2_find 129 = .ok (.getfield 22, 3) := by decide +kernel
theorem dX2_find_132 : decode cX2_find 132 = .ok (.iconst 1, 1) := by decide +kernel
theorem dX2_find_133 : decode cX2_find 133 = .ok (.iadd, 1) := by decide +kernel
theorem dX2_find_134 : decode cX2_find 134 = .ok (.putfield 22, 3) := by decide +kernel
theorem dX2_find_137 : decode cX2_find 137 = .ok (.iinc 5 1, 3) := by decide +kernel
theorem dX2_find_140 : decode cX2_find 140 = .ok (.goto (-43), 3) := by decide +kernel
theorem dX2_find_143 : decode cX2_find 143 = .ok (.return_, 1) := by decide +kernel
theorem dX2_findStepsLeft_0 : decode cX2_findStepsLeft 0 = .ok (.iconst 0, 1) := by decide +kernel
theorem dX2_findStepsLeft_1 : decode cX2_findStepsLeft 1 = .ok (.istore 4, 2) := by decide +kernel
theorem dX2_findStepsLeft_3 : decode cX2_findStepsLeft 3 = .ok (.iload 4, 2) := by decide +kernel
theorem dX2_findStepsLeft_5 : decode cX2_findStepsLeft 5 = .ok (.bipush 9, 2) := by decide +kernel
theorem dX2_findStepsLeft_7 : decode cX2_findStepsLeft 7 = .ok (.if_icmp .ge 17, 3) := by decide +kernel
theorem dX2_findStepsLeft_10 : decode cX2_findStepsLeft 10 = .ok (.aload_n 0, 1) := by decide +kernel
theorem dX2_findStepsLeft_11 : decode cX2_findStepsLeft 11 = .ok (.getfield 15, 3) := by decide +kernel
theorem dX2_findStepsLeft_14 : decode cX2_findStepsLeft 14 = .ok (.iload 4, 2) := by decide +kernel
theorem dX2_findStepsLeft_16 : decode cX2_findStepsLeft 16 = .ok (.iconst (-1), 1) := by decide +kernel
theorem dX2_findStepsLeft_17 : decode cX2_findStepsLeft 17 = .ok (.iastore, 1) := by decide +kernel
theorem dX2_findStepsLeft_18 : decode cX2_findStepsLeft 18 = .ok (.iinc 4 1, 3) := by decide +kernel
theorem dX2_findStepsLeft_21 : decode cX2_findStepsLeft 21 = .ok (.goto (-18), 3) := by decide +kernel
theorem dX2_findStepsLeft_24 : decode cX2_findStepsLeft 24 = .ok (.aload_n 0, 1) := by decide +kernel
theorem dX2_findStepsLeft_25 : decode cX2_findStepsLeft 25 = .ok (.getfield 15, 3) := by decide +kernel
theorem dX2_findStepsLeft_28 : decode cX2_findStepsLeft 28 = .ok (.iload_n 3, 1) := by decide +kernel
theorem dX2_findStepsLeft_29 : decode cX2_findStepsLeft 29 = .ok (.iconst 0, 1) := by decide +kernel
theorem dX2_findStepsLeft_30 : decode cX2_findStepsLeft 30 = .ok (.iastore, 1) := by decide +kernel
theorem dX2_findStepsLeft_31 : decode cX2_findStepsLeft 31 = .ok (.iconst 0, 1) := by decide +kernel
theorem dX2_findStepsLeft_32 : decode cX2_findStepsLeft 32 = .ok (.istore 4, 2) := by decide +kernel
theorem dX2_findStepsLeft_34 : decode cX2_findStepsLeft 34 = .ok (.iload 4, 2) := by decide +kernel
theorem dX2_findStepsLeft_36 : decode cX2_findStepsLeft 36 = .ok (.aload_n 1, 1) := by decide +kernel
theorem dX2_findStepsLeft_37 : decode cX2_findStepsLeft 37 = .ok (.getfield 43, 3) := by decide +kernel
theorem dX2_findStepsLeft_40 : decode cX2_findStepsLeft 40 = .ok (.if_icmp .ge 47, 3) := by decide +kernel
theorem dX2_findStepsLeft_43 : decode cX2_findStepsLeft 43 = .ok (.iconst 0, 1) := by decide +kernel
theorem dX2_findStepsLeft_44 : decode cX2_findStepsLeft 44 = .ok (.istore 5, 2) := by decide +kernel
theorem dX2_findStepsLeft_46 : decode cX2_findStepsLeft 46 = .ok (.iload 5, 2) := by decide +kernel
theorem dX2_findStepsLeft_48 : decode cX2_findStepsLeft 48 = .ok (.aload_n 1, 1) := by decide +kernel
theorem dX2_findStepsLeft_49 : decode cX2_findStepsLeft 49 = .ok (.getfield 43, 3) := by decide +kernel
theorem dX2_findStepsLeft_52 : decode cX2_findStepsLeft 52 = .ok (.if_icmp .ge 29, 3) := by decide +kernel
theorem dX2_findStepsLeft_55 : decode cX2_findStepsLeft 55 = .ok (.aload_n 0, 1) := by decide +kernel
theorem dX2_findStepsLeft_56 : decode cX2_findStepsLeft 56 = .ok (.getfield 15, 3) := by decide +kernel
theorem dX2_findStepsLeft_59 : decode cX2_findStepsLeft 59 = .ok (.iload 5, 2) := by decide +kernel
theorem dX2_findStepsLeft_61 : decode cX2_findStepsLeft 61 = .ok (.iaload, 1) := by decide +kernel
theorem dX2_findStepsLeft_62 : decode cX2_findStepsLeft 62 = .ok (.iload 4, 2) := by decide +kernel
theorem dX2_findStepsLeft_64 : decode cX2_findStepsLeft 64 = .ok (.if_icmp .ne 11, 3) := by decide +kernel
theorem dX2_findStepsLeft_67 : decode cX2_findStepsLeft 67 = .ok (.aload_n 0, 1) := by decide +kernel
theorem dX2_findStepsLeft_68 : decode cX2_findStepsLeft 68 = .ok (.aload_n 1, 1) := by decide +kernel
theorem dX2_findStepsLeft_69 : decode cX2_findStepsLeft 69 = .ok (.aload_n 2, 1) := by decide +kernel
theorem dX2_findStepsLeft_70 : decode cX2_findStepsLeft 70 = .ok (.iload 5, 2) := by decide +kernel
theorem dX2_findStepsLeft_72 : decode cX2_findStepsLeft 72 = .ok (.invokevirtual 47, 3) := by decide +kernel
theorem dX2_findStepsLeft_75 : decode cX2_findStepsLeft 75 = .ok (.iinc 5 1, 3) := by decide +kernel
theorem dX2_findStepsLeft_78 : decode cX2_findStepsLeft 78 = .ok (.goto (-32), 3) := by decide +kernel
theorem dX2_findStepsLeft_81 : decode cX2_findStepsLeft 81 = .ok (.iinc 4 1, 3) := by decide +kernel
theorem dX2_findStepsLeft_84 : decode cX2_findStepsLeft 84 = .ok (.goto (-50), 3) := by decide +kernel
theorem dX2_findStepsLeft_87 : decode cX2_findStepsLeft 87 = .ok (.return_, 1) := by decide +kernel
theorem dX2_reachNeighbours_0 : decode cX2_reachNeighbours 0 = .ok (.iconst 0, 1) := by decide +kernel
theorem dX2_reachNeighbours_1 : decode cX2_reachNeighbours 1 = .ok (.istore 4, 2) := by decide +kernel
theorem dX2_reachNeighbours_3 : decode cX2_reachNeighbours 3 = .ok (.iload 4, 2) := by decide +kernel
theorem dX2_reachNeighbours_5 : decode cX2_reachNeighbours 5 = .ok (.aload_n 1, 1) := by decide +kernel
theorem dX2_reachNeighbours_6 : decode cX2_reachNeighbours 6 = .ok (.getfield 43, 3) := by decide +kernel
theorem dX2_reachNeighbours_9 : decode cX2_reachNeighbours 9 = .ok (.if_icmp .ge 45, 3) := by decide +kernel
theorem dX2_reachNeighbours_12 : decode cX2_reachNeighbours 12 = .ok (.aload_n 0, 1) := by decide +kernel
theorem dX2_reachNeighbours_13 : decode cX2_reachNeighbours 13 = .ok (.getfield 15, 3) := by decide +kernel
theorem dX2_reachNeighbours_16 : decode cX2_reachNeighbours 16 = .ok (.iload 4, 2) := by decide +kernel
theorem dX2_reachNeighbours_18 : decode cX2_reachNeighbours 18 = .ok (.iaload, 1) := by decide +kernel
theorem dX2_reachNeighbours_19 : decode cX2_reachNeighbours 19 = .ok (.iconst (-1), 1) := by decide +kernel
theorem dX2_reachNeighbours_20 : decode cX2_reachNeighbours 20 = .ok (.if_icmp .ne 28, 3) := by decide +kernel
theorem dX2_reachNeighbours_23 : decode cX2_reachNeighbours 23 = .ok (.aload_n 2, 1) := by decide +kernel
theorem dX2_reachNeighbours_24 : decode cX2_reachNeighbours 24 = .ok (.iload_n 3, 1) := by decide +kernel
theorem dX2_reachNeighbours_25 : decode cX2_reachNeighbours 25 = .ok (.iload 4, 2) := by decide +kernel
theorem dX2_reachNeighbours_27 : decode cX2_reachNeighbours 27 = .ok (.invokevirtual 50, 3) := by decide +kernel
theorem dX2_reachNeighbours_30 : decode cX2_reachNeighbours 30 = .ok (.ifCond .eq 18, 3) := by decide +kernel
theorem dX2_reachNeighbours_33 : decode cX2_reachNeighbours 33 = .ok (.aload_n 0, 1) := by decide +kernel
theorem dX2_reachNeighbours_34 : decode cX2_reachNeighbours 34 = .ok (.getfield 15, 3) := by decide +kernel
theorem dX2_reachNeighbours_37 : decode cX2_reachNeighbours 37 = .ok (.iload 4, 2) := by decide +kernel
theorem dX2_reachNeighbours_39 : decode cX2_reachNeighbours 39 = .ok (.aload_n 0, 1) := by decide +kernel
theorem dX2_reachNeighbours_40 : decode cX2_reachNeighbours 40 = .ok (.getfield 15, 3) := by decide +kernel
theorem dX2_reachNeighbours_43 : decode cX2_reachNeighbours 43 = .ok (.iload_n 3, 1) := by decide +kernel
theorem dX2_reachNeighbours_44 : decode cX2_reachNeighbours 44 = .ok (.iaload, 1) := by decide +kernel
theorem dX2_reachNeighbours_45 : decode cX2_reachNeighbours 45 = .ok (.iconst 1, 1) := by decide +kernel
theorem dX2_reachNeighbours_46 : decode cX2_reachNeighbours 46 = .ok (.iadd, 1) := by decide +kernel
theorem dX2_reachNeighbours_47 : decode cX2_reachNeighbours 47 = .ok (.iastore, 1) := by decide +kernel
theorem dX2_reachNeighbours_48 : decode cX2_reachNeighbours 48 = .ok (.iinc 4 1, 3) := by decide +kernel
theorem dX2_reachNeighbours_51 : decode cX2_reachNeighbours 51 = .ok (.goto (-48), 3) := by decide +kernel
theorem dX2_reachNeighbours_54 : decode cX2_reachNeighbours 54 = .ok (.return_, 1) := by decide +kernel
theorem dX2_addNext_0 : decode cX2_addNext 0 = .ok (.aload_n 0, 1) := by decide +kernel
theorem dX2_addNext_1 : decode cX2_addNext 1 = .ok (.getfield 9, 3) := by decide +kernel
theorem dX2_addNext_4 : decode cX2_addNext 4 = .ok (.aload_n 0, 1) := by decide +kernel
theorem dX2_addNext_5 : decode cX2_addNext 5 = .ok (.getfield 18, 3) := by decide +kernel
theorem dX2_addNext_8 : decode cX2_addNext 8 = .ok (.iconst 1, 1) := by decide +kernel
theorem dX2_addNext_9 : decode cX2_addNext 9 = .ok (.isub, 1) := by decide +kernel
theorem dX2_addNext_10 : decode cX2_addNext 10 = .ok (.iaload, 1) := by decide +kernel
theorem dX2_addNext_11 : decode cX2_addNext 11 = .ok (.istore 4, 2) := by decide +kernel
theorem dX2_addNext_13 : decode cX2_addNext 13 = .ok (.iconst 0, 1) := by decide +kernel
theorem dX2_addNext_14 : decode cX2_addNext 14 = .ok (.istore 5, 2) := by decide +kernel
theorem dX2_addNext_16 : decode cX2_addNext 16 = .ok (.iload 5, 2) := by decide +kernel
theorem dX2_addNext_18 : decode cX2_addNext 18 = .ok (.aload_n 1, 1) := by decide +kernel
theorem dX2_addNext_19 : decode cX2_addNext 19 = .ok (.getfield 43, 3) := by decide +kernel
theorem dX2_addNext_22 : decode cX2_addNext 22 = .ok (.if_icmp .ge 73, 3) := by decide +kernel
theorem dX2_addNext_25 : decode cX2_addNext 25 = .ok (.aload_n 0, 1) := by decide +kernel
theorem dX2_addNext_26 : decode cX2_addNext 26 = .ok (.getfield 15, 3) := by decide +kernel
theorem dX2_addNext_29 : decode cX2_addNext 29 = .ok (.iload 5, 2) := by decide +kernel
theorem dX2_addNext_31 : decode cX2_addNext 31 = .ok (.iaload, 1) := by decide +kernel
theorem dX2_addNext_32 : decode cX2_addNext 32 = .ok (.iload_n 3, 1) := by decide +kernel
theorem dX2_addNext_33 : decode cX2_addNext 33 = .ok (.if_icmp .ne 56, 3) := by decide +kernel
theorem dX2_addNext_36 : decode cX2_addNext 36 = .ok (.aload_n 2, 1) := by decide +kernel
theorem dX2_addNext_37 : decode cX2_addNext 37 = .ok (.iload 4, 2) := by decide +kernel
theorem dX2_addNext_39 : decode cX2_addNext 39 = .ok (.iload 5, 2) := by decide +kernel
theorem dX2_addNext_41 : decode cX2_addNext 41 = .ok (.invokevirtual 50, 3) := by decide +kernel
theorem dX2_addNext_44 : decode cX2_addNext 44 = .ok (.ifCond .eq 45, 3) := by decide +kernel
theorem dX2_addNext_47 : decode cX2_addNext 47 = .ok (.aload_n 0, 1) := by decide +kernel
theorem dX2_addNext_48 : decode cX2_addNext 48 = .ok (.getfield 9, 3) := by decide +kernel
theorem dX2_addNext_51 : decode cX2_addNext 51 = .ok (.aload_n 0, 1) := by decide +kernel
theorem dX2_addNext_52 : decode cX2_addNext 52 = .ok (.getfield 18, 3) := by decide +kernel
theorem dX2_addNext_55 : decode cX2_addNext 55 = .ok (.iload 5, 2) := by decide +kernel
theorem dX2_addNext_57 : decode cX2_addNext 57 = .ok (.iastore, 1) := by decide +kernel
theorem dX2_addNext_58 : decode cX2_addNext 58 = .ok (.aload_n 0, 1) := by decide +kernel
theorem dX2_addNext_59 : decode cX2_addNext 59 = .ok (.dup, 1) := by decide +kernel
theorem dX2_addNext_60 : decode cX2_addNext 60 = .ok (.getfield 18, 3) := by decide +kernel
theorem dX2_addNext_63 : decode cX2_addNext 63 = .ok (.iconst 1, 1) := by decide +kernel
theorem dX2_addNext_64 : decode cX2_addNext 64 = .ok (.iadd, 1) := by decide +kernel
theorem dX2_addNext_65 : decode cX2_addNext 65 = .ok (.putfield 18, 3) := by decide +kernel
theorem dX2_addNext_68 : decode cX2_addNext 68 = .ok (.aload_n 0, 1) := by decide +kernel
theorem dX2_addNext_69 : decode cX2_addNext 69 = .ok (.aload_n 1, 1) := by decide +kernel
theorem dX2_addNext_70 : decode cX2_addNext 70 = .ok (.iload 4, 2) := by decide +kernel
theorem dX2_addNext_72 : decode cX2_addNext 72 = .ok (.iload 5, 2) := by decide +kernel
theorem dX2_addNext_74 : decode cX2_addNext 74 = .ok (.aload_n 0, 1) := by decide +kernel
theorem dX2_addNext_75 : decode cX2_addNext 75 = .ok (.aload_n 2, 1) := by decide +kernel
theorem dX2_addNext_76 : decode cX2_addNext 76 = .ok (.aload_n 0, 1) := by decide +kernel
theorem dX2_addNext_77 : decode cX2_addNext 77 = .ok (.getfield 18, 3) := by decide +kernel
theorem dX2_addNext_80 : decode cX2_addNext 80 = .ok (.iconst 2, 1) := by decide +kernel
theorem dX2_addNext_81 : decode cX2_addNext 81 = .ok (.isub, 1) := by decide +kernel
theorem dX2_addNext_82 : decode cX2_addNext 82 = .ok (.invokevirtual 39, 3) := by decide +kernel
theorem dX2_addNext_85 : decode cX2_addNext 85 = .ok (.invokevirtual 56, 3) := by decide +kernel
theorem dX2_addNext_88 : decode cX2_addNext 88 = .ok (.return_, 1) := by decide +kernel
theorem dX2_addNext_89 : decode cX2_addNext 89 = .ok (.iinc 5 1, 3) := by decide +kernel
theorem dX2_addNext_92 : decode cX2_addNext 92 = .ok (.goto (-76), 3) := by decide +kernel
theorem dX2_addNext_95 : decode cX2_addNext 95 = .ok (.return_, 1) := by decide +kernel
theorem dX2_turn_0 : decode cX2_turn 0 = .ok (.iload_n 2, 1) := by decide +kernel
theorem dX2_turn_1 : decode cX2_turn 1 = .ok (.iload 4, 2) := by decide +kernel
theorem dX2_turn_3 : decode cX2_turn 3 = .ok (.invokestatic 60, 3) := by decide +kernel
theorem dX2_turn_6 : decode cX2_turn 6 = .ok (.istore 5, 2) := by decide +kernel
theorem dX2_turn_8 : decode cX2_turn 8 = .ok (.iload_n 3, 1) := by decide +kernel
theorem dX2_turn_9 : decode cX2_turn 9 = .ok (.iload 4, 2) := by decide +kernel
theorem dX2_turn_11 : decode cX2_turn 11 = .ok (.invokestatic 60, 3) := by decide +kernel
theorem dX2_turn_14 : decode cX2_turn 14 = .ok (.istore 6, 2) := by decide +kernel
theorem dX2_turn_16 : decode cX2_turn 16 = .ok (.aload_n 0, 1) := by decide +kernel
theorem dX2_turn_17 : decode cX2_turn 17 = .ok (.getfield 25, 3) := by decide +kernel
theorem dX2_turn_20 : decode cX2_turn 20 = .ok (.aload_n 1, 1) := by decide +kernel
theorem dX2_turn_21 : decode cX2_turn 21 = .ok (.iload 5, 2) := by decide +kernel
theorem dX2_turn_23 : decode cX2_turn 23 = .ok (.iload 6, 2) := by decide +kernel
theorem dX2_turn_25 : decode cX2_turn 25 = .ok (.invokevirtual 63, 3) := by decide +kernel
theorem dX2_turn_28 : decode cX2_turn 28 = .ok (.i2l, 1) := by decide +kernel
theorem dX2_turn_29 : decode cX2_turn 29 = .ok (.lmul, 1) := by decide +kernel
theorem dX2_turn_30 : decode cX2_turn 30 = .ok (.lstore 7, 2) := by decide +kernel
theorem dX2_turn_32 : decode cX2_turn 32 = .ok (.aload_n 0, 1) := by decide +kernel
theorem dX2_turn_33 : decode cX2_turn 33 = .ok (.getfield 29, 3) := by decide +kernel
theorem dX2_turn_36 : decode cX2_turn 36 = .ok (.aload_n 1, 1) := by decide +kernel
theorem dX2_turn_37 : decode cX2_turn 37 = .ok (.getfield 66, 3) := by decide +kernel
theorem dX2_turn_40 : decode cX2_turn 40 = .ok (.iload 6, 2) := by decide +kernel
theorem dX2_turn_42 : decode cX2_turn 42 = .ok (.iaload, 1) := by decide +kernel
theorem dX2_turn_43 : decode cX2_turn 43 = .ok (.i2l, 1) := by decide +kernel
theorem dX2_turn_44 : decode cX2_turn 44 = .ok (.lmul, 1) := by decide +kernel
theorem dX2_turn_45 : decode cX2_turn 45 = .ok (.lstore 9, 2) := by decide +kernel
theorem dX2_turn_47 : decode cX2_turn 47 = .ok (.lload 7, 2) := by decide +kernel
theorem dX2_turn_49 : decode cX2_turn 49 = .ok (.lload 9, 2) := by decide +kernel
theorem dX2_turn_51 : decode cX2_turn 51 = .ok (.invokestatic 69, 3) := by decide +kernel
theorem dX2_turn_54 : decode cX2_turn 54 = .ok (.lstore 11, 2) := by decide +kernel
theorem dX2_turn_56 : decode cX2_turn 56 = .ok (.aload_n 0, 1) := by decide +kernel
theorem dX2_turn_57 : decode cX2_turn 57 = .ok (.lload 11, 2) := by decide +kernel
theorem dX2_turn_59 : decode cX2_turn 59 = .ok (.lconst 1, 1) := by decide +kernel
theorem dX2_turn_60 : decode cX2_turn 60 = .ok (.lcmp, 1) := by decide +kernel
theorem dX2_turn_61 : decode cX2_turn 61 = .ok (.ifCond .le 11, 3) := by decide +kernel
theorem dX2_turn_64 : decode cX2_turn 64 = .ok (.lload 7, 2) := by decide +kernel
theorem dX2_turn_66 : decode cX2_turn 66 = .ok (.lload 11, 2) := by decide +kernel
theorem dX2_turn_68 : decode cX2_turn 68 = .ok (.ldiv, 1) := by decide +kernel
theorem dX2_turn_69 : decode cX2_turn 69 = .ok (.goto 5, 3) := by decide +kernel
theorem dX2_turn_72 : decode cX2_turn 72 = .ok (.lload 7, 2) := by decide +kernel
theorem dX2_turn_74 : decode cX2_turn 74 = .ok (.putfield 25, 3) := by decide +kernel
theorem dX2_turn_77 : decode cX2_turn 77 = .ok (.aload_n 0, 1) := by decide +kernel
theorem dX2_turn_78 : decode cX2_turn 78 = .ok (.lload 11, 2) := by decide +kernel
theorem dX2_turn_80 : decode cX2_turn 80 = .ok (.lconst 1, 1) := by decide +kernel
theorem dX2_turn_81 : decode cX2_turn 81 = .ok (.lcmp, 1) := by decide +kernel
theorem dX2_turn_82 : decode cX2_turn 82 = .ok (.ifCond .le 11, 3) := by decide +kernel
theorem dX2_turn_85 : decode cX2_turn 85 = .ok (.lload 9, 2) := by decide +kernel
theorem dX2_turn_87 : decode cX2_turn 87 = .ok (.lload 11, 2) := by decide +kernel
theorem dX2_turn_89 : decode cX2_turn 89 = .ok (.ldiv, 1) := by decide +kernel
theorem dX2_turn_90 : decode cX2_turn 90 = .ok (.goto 5, 3) := by decide +kernel
theorem dX2_turn_93 : decode cX2_turn 93 = .ok (.lload 9, 2) := by decide +kernel
theorem dX2_turn_95 : decode cX2_turn 95 = .ok (.putfield 29, 3) := by decide +kernel
theorem dX2_turn_98 : decode cX2_turn 98 = .ok (.return_, 1) := by decide +kernel
theorem dX2_levelFrom_0 : decode cX2_levelFrom 0 = .ok (.aload_n 1, 1) := by decide +kernel
theorem dX2_levelFrom_1 : decode cX2_levelFrom 1 = .ok (.aload_n 0, 1) := by decide +kernel
theorem dX2_levelFrom_2 : decode cX2_levelFrom 2 = .ok (.getfield 9, 3) := by decide +kernel
theorem dX2_levelFrom_5 : decode cX2_levelFrom 5 = .ok (.iload_n 2, 1) := by decide +kernel
theorem dX2_levelFrom_6 : decode cX2_levelFrom 6 = .ok (.iaload, 1) := by decide +kernel
theorem dX2_levelFrom_7 : decode cX2_levelFrom 7 = .ok (.aload_n 0, 1) := by decide +kernel
theorem dX2_levelFrom_8 : decode cX2_levelFrom 8 = .ok (.getfield 9, 3) := by decide +kernel
theorem dX2_levelFrom_11 : decode cX2_levelFrom 11 = .ok (.iload_n 2, 1) := by decide +kernel
theorem dX2_levelFrom_12 : decode cX2_levelFrom 12 = .ok (.iconst 1, 1) := by decide +kernel
theorem dX2_levelFrom_13 : decode cX2_levelFrom 13 = .ok (.iadd, 1) := by decide +kernel
theorem dX2_levelFrom_14 : decode cX2_levelFrom 14 = .ok (.iaload, 1) := by decide +kernel
theorem dX2_levelFrom_15 : decode cX2_levelFrom 15 = .ok (.iconst 0, 1) := by decide +kernel
theorem dX2_levelFrom_16 : decode cX2_levelFrom 16 = .ok (.invokevirtual 73, 3) := by decide +kernel
theorem dX2_levelFrom_19 : decode cX2_levelFrom 19 = .ok (.ifCond .eq 7, 3) := by decide +kernel
theorem dX2_levelFrom_22 : decode cX2_levelFrom 22 = .ok (.iconst 0, 1) := by decide +kernel
theorem dX2_levelFrom_23 : decode cX2_levelFrom 23 = .ok (.goto 4, 3) := by decide +kernel
theorem dX2_levelFrom_26 : decode cX2_levelFrom 26 = .ok (.iconst 1, 1) := by decide +kernel
theorem dX2_levelFrom_27 : decode cX2_levelFrom 27 = .ok (.ireturn, 1) := by decide +kernel
theorem dX3_init_0 : decode cX3_init 0 = .ok (.aload_n 0, 1) := by decide +kernel
theorem dX3_init_1 : decode cX3_init 1 = .ok (.invokespecial 3, 3) := by decide +kernel
theorem dX3_init_4 : decode cX3_init 4 = .ok (.aload_n 0, 1) := by decide +kernel
theorem dX3_init_5 : decode cX3_init 5 = .ok (.bipush 60, 2) := by decide +kernel
theorem dX3_init_7 : decode cX3_init 7 = .ok (.newarray .int, 2) := by decide +kernel
theorem dX3_init_9 : decode cX3_init 9 = .ok (.putfield 9, 3) := by decide +kernel
theorem dX3_init_12 : decode cX3_init 12 = .ok (.aload_n 0, 1) := by decide +kernel
theorem dX3_init_13 : decode cX3_init 13 = .ok (.iconst 0, 1) := by decide +kernel
theorem dX3_init_14 : decode cX3_init 14 = .ok (.putfield 15, 3) := by decide +kernel
theorem dX3_init_17 : decode cX3_init 17 = .ok (.aload_n 0, 1) := by decide +kernel
theorem dX3_init_18 : decode cX3_init 18 = .ok (.bipush 30, 2) := by decide +kernel
theorem dX3_init_20 : decode cX3_init 20 = .ok (.newarray .int, 2) := by decide +kernel
theorem dX3_init_22 : decode cX3_init 22 = .ok (.putfield 19, 3) := by decide +kernel
theorem dX3_init_25 : decode cX3_init 25 = .ok (.aload_n 0, 1) := by decide +kernel
theorem dX3_init_26 : decode cX3_init 26 = .ok (.bipush 90, 2) := by decide +kernel
theorem dX3_init_28 : decode cX3_init 28 = .ok (.newarray .int, 2) := by decide +kernel
theorem dX3_init_30 : decode cX3_init 30 = .ok (.putfield 22, 3) := by decide +kernel
theorem dX3_init_33 : decode cX3_init 33 = .ok (.aload_n 0, 1) := by decide +kernel
theorem dX3_init_34 : decode cX3_init 34 = .ok (.iconst 0, 1) := by decide +kernel
theorem dX3_init_35 : decode cX3_init 35 = .ok (.putfield 25, 3) := by decide +kernel
theorem dX3_init_38 : decode cX3_init 38 = .ok (.aload_n 0, 1) := by decide +kernel
theorem dX3_init_39 : decode cX3_init 39 = .ok (.iconst 0, 1) := by decide +kernel
theorem dX3_init_40 : decode cX3_init 40 = .ok (.putfield 28, 3) := by decide +kernel
theorem dX3_init_43 : decode cX3_init 43 = .ok (.aload_n 0, 1) := by decide +kernel
theorem dX3_init_44 : decode cX3_init 44 = .ok (.iconst 0, 1) := by decide +kernel
theorem dX3_init_45 : decode cX3_init 45 = .ok (.putfield 31, 3) := by decide +kernel
theorem dX3_init_48 : decode cX3_init 48 = .ok (.return_, 1) := by decide +kernel
theorem dX3_tryAppend_0 : decode cX3_tryAppend 0 = .ok (.aload_n 0, 1) := by decide +kernel
theorem dX3_tryAppend_1 : decode cX3_tryAppend 1 = .ok (.getfield 15, 3) := by decide +kernel
theorem dX3_tryAppend_4 : decode cX3_tryAppend 4 = .ok (.bipush 60, 2) := by decide +kernel
theorem dX3_tryAppend_6 : decode cX3_tryAppend 6 = .ok (.if_icmp .lt 5, 3) := by decide +kernel
theorem dX3_tryAppend_9 : decode cX3_tryAppend 9 = .ok (.iconst 0, 1) := by decide +kernel
theorem dX3_tryAppend_10 : decode cX3_tryAppend 10 = .ok (.ireturn, 1) := by decide +kernel
theorem dX3_tryAppend_11 : decode cX3_tryAppend 11 = .ok (.aload_n 0, 1) := by decide +kernel
theorem dX3_tryAppend_12 : decode cX3_tryAppend 12 = .ok (.getfield 9, 3) := by decide +kernel
theorem dX3_tryAppend_15 : decode cX3_tryAppend 15 = .ok (.aload_n 0, 1) := by decide +kernel
theorem dX3_tryAppend_16 : decode cX3_tryAppend 16 = .ok (.getfield 15, 3) := by decide +kernel
theorem dX3_tryAppend_19 : decode cX3_tryAppend 19 = .ok (.iload_n 1, 1) := by decide +kernel
theorem dX3_tryAppend_20 : decode cX3_tryAppend 20 = .ok (.iastore, 1) := by decide +kernel
theorem dX3_tryAppend_21 : decode cX3_tryAppend 21 = .ok (.aload_n 0, 1) := by decide +kernel
theorem dX3_tryAppend_22 : decode cX3_tryAppend 22 = .ok (.dup, 1) := by decide +kernel
theorem dX3_tryAppend_23 : decode cX3_tryAppend 23 = .ok (.getfield 15, 3) := by decide +kernel
theorem dX3_tryAppend_26 : decode cX3_tryAppend 26 = .ok (.iconst 1, 1) := by decide +kernel
theorem dX3_tryAppend_27 : decode cX3_tryAppend 27 = .ok (.iadd, 1) := by decide +kernel
theorem dX3_tryAppend_28 : decode cX3_tryAppend 28 = .ok (.putfield 15, 3) := by decide +kernel
theorem dX3_tryAppend_31 : decode cX3_tryAppend 31 = .ok (.iconst 1, 1) := by decide +kernel
theorem dX3_tryAppend_32 : decode cX3_tryAppend 32 = .ok (.ireturn, 1) := by decide +kernel
theorem dX3_part_0 : decode cX3_part 0 = .ok (.aload_n 0, 1) := by decide +kernel
theorem dX3_part_1 : decode cX3_part 1 = .ok (.getfield 22, 3) := by decide +kernel
theorem dX3_part_4 : decode cX3_part 4 = .ok (.iload_n 1, 1) := by decide +kernel
theorem dX3_part_5 : decode cX3_part 5 = .ok (.iconst 3, 1) := by decide +kernel
theorem dX3_part_6 : decode cX3_part 6 = .ok (.imul, 1) := by decide +kernel
theorem dX3_part_7 : decode cX3_part 7 = .ok (.iload_n 2, 1) := by decide +kernel
theorem dX3_part_8 : decode cX3_part 8 = .ok (.iadd, 1) := by decide +kernel
theorem dX3_part_9 : decode cX3_part 9 = .ok (.iaload, 1) := by decide +kernel
theorem dX3_part_10 : decode cX3_part 10 = .ok (.ireturn, 1) := by decide +kernel
theorem dX3_read_0 : decode cX3_read 0 = .ok (.aload_n 0, 1) := by decide +kernel
theorem dX3_read_1 : decode cX3_read 1 = .ok (.iconst 0, 1) := by decide +kernel
theorem dX3_read_2 : decode cX3_read 2 = .ok (.putfield 28, 3) := by decide +kernel
theorem dX3_read_5 : decode cX3_read 5 = .ok (.aload_n 0, 1) := by decide +kernel
theorem dX3_read_6 : decode cX3_read 6 = .ok (.iconst 0, 1) := by decide +kernel
theorem dX3_read_7 : decode cX3_read 7 = .ok (.putfield 25, 3) := by decide +kernel
theorem dX3_read_10 : decode cX3_read 10 = .ok (.aload_n 0, 1) := by decide +kernel
theorem dX3_read_11 : decode cX3_read 11 = .ok (.iconst 0, 1) := by decide +kernel
theorem dX3_read_12 : decode cX3_read 12 = .ok (.putfield 31, 3) := by decide +kernel
theorem dX3_read_15 : decode cX3_read 15 = .ok (.iconst 1, 1) := by decide +kernel
theorem dX3_read_16 : decode cX3_read 16 = .ok (.istore_n 1, 1) := by decide +kernel
theorem dX3_read_17 : decode cX3_read 17 = .ok (.iconst 0, 1) := by decide +kernel
theorem dX3_read_18 : decode cX3_read 18 = .ok (.istore_n 2, 1) := by decide +kernel
theorem dX3_read_19 : decode cX3_read 19 = .ok (.iload_n 2, 1) := by decide +kernel
theorem dX3_read_20 : decode cX3_read 20 = .ok (.bipush 30, 2) := by decide +kernel
theorem dX3_read_22 : decode cX3_read 22 = .ok (.if_icmp .ge 61, 3) := by decide +kernel
theorem dX3_read_25 : decode cX3_read 25 = .ok (.iload_n 1, 1) := by decide +kernel
theorem dX3_read_26 : decode cX3_read 26 = .ok (.ifCond .eq 57, 3) := by decide +kernel
theorem dX3_read_29 : decode cX3_read 29 = .ok (.aload_n 0, 1) := by decide +kernel
theorem dX3_read_30 : decode cX3_read 30 = .ok (.invokevirtual 35, 3) := by decide +kernel
theorem dX3_read_33 : decode cX3_read 33 = .ok (.istore_n 3, 1) := by decide +kernel
theorem dX3_read_34 : decode cX3_read 34 = .ok (.aload_n 0, 1) := by decide +kernel
theorem dX3_read_35 : decode cX3_read 35 = .ok (.iload_n 3, 1) := by decide +kernel
theorem dX3_read_36 : decode cX3_read 36 = .ok (.ifCond .eq 18, 3) := by decide +kernel
theorem dX3_read_39 : decode cX3_read 39 = .ok (.aload_n 0, 1) := by decide +kernel
theorem dX3_read_40 : decode cX3_read 40 = .ok (.getfield 28, 3) := by decide +kernel
theorem dX3_read_43 : decode cX3_read 43 = .ok (.aload_n 0, 1) := by decide +kernel
theorem dX3_read_44 : decode cX3_read 44 = .ok (.getfield 15, 3) := by decide +kernel
theorem dX3_read_47 : decode cX3_read 47 = .ok (.if_icmp .ne 7, 3) := by decide +kernel
theorem dX3_read_50 : decode cX3_read 50 = .ok (.iconst 1, 1) := by decide +kernel
theorem dX3_read_51 : decode cX3_read 51 = .ok (.goto 4, 3) := by decide +kernel
theorem dX3_read_54 : decode cX3_read 54 = .ok (.iconst 0, 1) := by decide +kernel
theorem dX3_read_55 : decode cX3_read 55 = .ok (.putfield 31, 3) := by decide +kernel
theorem dX3_read_58 : decode cX3_read 58 = .ok (.iload_n 3, 1) := by decide +kernel
theorem dX3_read_59 : decode cX3_read 59 = .ok (.ifCond .eq 16, 3) := by decide +kernel
theorem dX3_read_62 : decode cX3_read 62 = .ok (.aload_n 0, 1) := by decide +kernel
theorem dX3_read_63 : decode cX3_read 63 = .ok (.bipush 59, 2) := by decide +kernel
theorem dX3_read_65 : decode cX3_read 65 = .ok (.invokevirtual 39, 3) := by decide +kernel
theorem dX3_read_68 : decode cX3_read 68 = .ok (.ifCond .eq 7, 3) := by decide +kernel
theorem dX3_read_71 : decode cX3_read 71 = .ok (.iconst 1, 1) := by decide +kernel
theorem dX3_read_72 : decode cX3_read 72 = .ok (.goto 4, 3) := by decide +kernel
theorem dX3_read_75 : decode cX3_read 75 = .ok (.iconst 0, 1) := by decide +kernel
theorem dX3_read_76 : decode cX3_read 76 = .ok (.istore_n 1, 1) := by decide +kernel
theorem dX3_read_77 : decode cX3_read 77 = .ok (.iinc 2 1, 3) := by decide +kernel
theorem dX3_read_80 : decode cX3_read 80 = .ok (.goto (-61), 3) := by decide +kernel
theorem dX3_read_83 : decode cX3_read 83 = .ok (.return_, 1) := by decide +kernel
theorem dX3_readOrder_0 : decode cX3_readOrder 0 = .ok (.aload_n 0, 1) := by decide +kernel
theorem dX3_readOrder_1 : decode cX3_readOrder 1 = .ok (.getfield 28, 3) := by decide +kernel
theorem dX3_readOrder_4 : decode cX3_readOrder 4 = .ok (.aload_n 0, 1) := by decide +kernel
theorem dX3_readOrder_5 : decode cX3_readOrder 5 = .ok (.getfield 15, 3) := by decide +kernel
theorem dX3_readOrder_8 : decode cX3_readOrder 8 = .ok (.if_icmp .ge 12, 3) := by decide +kernel
theorem dX3_readOrder_11 : decode cX3_readOrder 11 = .ok (.aload_n 0, 1) := by decide +kernel
theorem dX3_readOrder_12 : decode cX3_readOrder 12 = .ok (.getfield 25, 3) := by decide +kernel
theorem dX3_readOrder_15 : decode cX3_readOrder 15 = .ok (.bipush 30, 2) := by decide +kernel
theorem dX3_readOrder_17 : decode cX3_readOrder 17 = .ok (.if_icmp .lt 5, 3) := by decide +kernel
theorem dX3_readOrder_20 : decode cX3_readOrder 20 = .ok (.iconst 0, 1) := by decide +kernel
theorem dX3_readOrder_21 : decode cX3_readOrder 21 = .ok (.ireturn, 1) := by decide +kernel
theorem dX3_readOrder_22 : decode cX3_readOrder 22 = .ok (.aload_n 0, 1) := by decide +kernel
theorem dX3_readOrder_23 : decode cX3_readOrder 23 = .ok (.getfield 19, 3) := by decide +kernel
theorem dX3_readOrder_26 : decode cX3_readOrder 26 = .ok (.aload_n 0, 1) := by decide +kernel
theorem dX3_readOrder_27 : decode cX3_readOrder 27 = .ok (.getfield 25, 3) := by decide +kernel
theorem dX3_readOrder_30 : decode cX3_readOrder 30 = .ok (.aload_n 0, 1) := by decide +kernel
theorem dX3_readOrder_31 : decode cX3_readOrder 31 = .ok (.getfield 9, 3) := by decide +kernel
theorem dX3_readOrder_34 : decode cX3_readOrder 34 = .ok (.aload_n 0, 1) := by decide +kernel
theorem dX3_readOrder_35 : decode cX3_readOrder 35 = .ok (.getfield 28, 3) := by decide +kernel
theorem dX3_readOrder_38 : decode cX3_readOrder 38 = .ok (.iaload, 1) := by decide +kernel
theorem dX3_readOrder_39 : decode cX3_readOrder 39 = .ok (.iastore, 1) := by decide +kernel
theorem dX3_readOrder_40 : decode cX3_readOrder 40 = .ok (.aload_n 0, 1) := by decide +kernel
theorem dX3_readOrder_41 : decode cX3_readOrder 41 = .ok (.aload_n 0, 1) := by decide +kernel
theorem dX3_readOrder_42 : decode cX3_readOrder 42 = .ok (.getfield 9, 3) := by decide +kernel
theorem dX3_readOrder_45 : decode cX3_readOrder 45 = .ok (.aload_n 0, 1) := by decide +kernel
theorem dX3_readOrder_46 : decode cX3_readOrder 46 = .ok (.getfield 28, 3) := by decide +kernel
theorem dX3_readOrder_49 : decode cX3_readOrder 49 = .ok (.iaload, 1) := by decide +kernel
theorem dX3_readOrder_50 : decode cX3_readOrder 50 = .ok (.invokevirtual 43, 3) := by decide +kernel
theorem dX3_readOrder_53 : decode cX3_readOrder 53 = .ok (.istore_n 1, 1) := by decide +kernel
theorem dX3_readOrder_54 : decode cX3_readOrder 54 = .ok (.iload_n 1, 1) := by decide +kernel
theorem dX3_readOrder_55 : decode cX3_readOrder 55 = .ok (.ifCond .eq 13, 3) := by decide +kernel
theorem dX3_readOrder_58 : decode cX3_readOrder 58 = .ok (.aload_n 0, 1) := by decide +kernel
theorem dX3_readOrder_59 : decode cX3_readOrder 59 = .ok (.dup, 1) := by decide +kernel
theorem dX3_readOrder_60 : decode cX3_readOrder 60 = .ok (.getfield 25, 3) := by decide +kernel
theorem dX3_readOrder_63 : decode cX3_readOrder 63 = .ok (.iconst 1, 1) := by decide +kernel
theorem dX3_readOrder_64 : decode cX3_readOrder 64 = .ok (.iadd, 1) := by decide +kernel
theorem dX3_readOrder_65 : decode cX3_readOrder 65 = .ok (.putfield 25, 3) := by decide +kernel
theorem dX3_readOrder_68 : decode cX3_readOrder 68 = .ok (.iload_n 1, 1) := by decide +kernel
theorem dX3_readOrder_69 : decode cX3_readOrder 69 = .ok (.ireturn, 1) := by decide +kernel
theorem dX3_readParts_0 : decode cX3_readParts 0 = .ok (.iload_n 1, 1) := by decide +kernel
theorem dX3_readParts_1 : decode cX3_readParts 1 = .ok (.lookupswitch 182 #[(100, 156), (103, 89), (112, 43), (114, 122)], 43) := by decide +kernel
theorem dX3_readParts_44 : decode cX3_readParts 44 = .ok (.aload_n 0, 1) := by decide +kernel
theorem dX3_readParts_45 : decode cX3_readParts 45 = .ok (.bipush 112, 2) := by decide +kernel
theorem dX3_readParts_47 : decode cX3_readParts 47 = .ok (.invokevirtual 39, 3) := by decide +kernel
theorem dX3_readParts_50 : decode cX3_readParts 50 = .ok (.ifCond .eq 38, 3) := by decide +kernel
theorem dX3_readParts_53 : decode cX3_readParts 53 = .ok (.aload_n 0, 1) := by decide +kernel
theorem dX3_readParts_54 : decode cX3_readParts 54 = .ok (.iconst 0, 1) := by decide +kernel
theorem dX3_readParts_55 : decode cX3_readParts 55 = .ok (.iconst 0, 1) := by decide +kernel
theorem dX3_readParts_56 : decode cX3_readParts 56 = .ok (.bipush 60, 2) := by decide +kernel
theorem dX3_readParts_58 : decode cX3_readParts 58 = .ok (.invokevirtual 46, 3) := by decide +kernel
theorem dX3_readParts_61 : decode cX3_readParts 61 = .ok (.ifCond .eq 27, 3) := by decide +kernel
theorem dX3_readParts_64 : decode cX3_readParts 64 = .ok (.aload_n 0, 1) := by decide +kernel
theorem dX3_readParts_65 : decode cX3_readParts 65 = .ok (.bipush 44, 2) := by decide +kernel
theorem dX3_readParts_67 : decode cX3_readParts 67 = .ok (.invokevirtual 39, 3) := by decide +kernel
theorem dX3_readParts_70 : decode cX3_readParts 70 = .ok (.ifCond .eq 18, 3) := by decide +kernel
theorem dX3_readParts_73 : decode cX3_readParts 73 = .ok (.aload_n 0, 1) := by decide +kernel
theorem dX3_readParts_74 : decode cX3_readParts 74 = .ok (.iconst 1, 1) := by decide +kernel
theorem dX3_readParts_75 : decode cX3_readParts 75 = .ok (.iconst 0, 1) := by decide +kernel
theorem dX3_readParts_76 : decode cX3_readParts 76 = .ok (.bipush 60, 2) := by decide +kernel
theorem dX3_readParts_78 : decode cX3_readParts 78 = .ok (.invokevirtual 46, 3) := by decide +kernel
theorem dX3_readParts_81 : decode cX3_readParts 81 = .ok (.ifCond .eq 7, 3) := by decide +kernel
theorem dX3_readParts_84 : decode cX3_readParts 84 = .ok (.iconst 1, 1) := by decide +kernel
theorem dX3_readParts_85 : decode cX3_readParts 85 = .ok (.goto 4, 3) := by decide +kernel
theorem dX3_readParts_88 : decode cX3_readParts 88 = .ok (.iconst 0, 1) := by decide +kernel
theorem dX3_readParts_89 : decode cX3_readParts 89 = .ok (.ireturn, 1) := by decide +kernel
theorem dX3_readParts_90 : decode cX3_readParts 90 = .ok (.aload_n 0, 1) := by decide +kernel
theorem dX3_readParts_91 : decode cX3_readParts 91 = .ok (.bipush 103, 2) := by decide +kernel
theorem dX3_readParts_93 : decode cX3_readParts 93 = .ok (.invokevirtual 39, 3) := by decide +kernel
theorem dX3_readParts_96 : decode cX3_readParts 96 = .ok (.ifCond .eq 25, 3) := by decide +kernel
theorem dX3_readParts_99 : decode cX3_readParts 99 = .ok (.aload_n 0, 1) := by decide +kernel
theorem dX3_readParts_100 : decode cX3_readParts 100 = .ok (.invokevirtual 50, 3) := by decide +kernel
theorem dX3_readParts_103 : decode cX3_readParts 103 = .ok (.ifCond .eq 18, 3) := by decide +kernel
theorem dX3_readParts_106 : decode cX3_readParts 106 = .ok (.aload_n 0, 1) := by decide +kernel
theorem dX3_readParts_107 : decode cX3_readParts 107 = .ok (.iconst 2, 1) := by decide +kernel
theorem dX3_readParts_108 : decode cX3_readParts 108 = .ok (.iconst 0, 1) := by decide +kernel
theorem dX3_readParts_109 : decode cX3_readParts 109 = .ok (.bipush 20, 2) := by decide +kernel
theorem dX3_readParts_111 : decode cX3_readParts 111 = .ok (.invokevirtual 46, 3) := by decide +kernel
theorem dX3_readParts_114 : decode cX3_readParts 114 = .ok (.ifCond .eq 7, 3) := by decide +kernel
theorem dX3_readParts_117 : decode cX3_readParts 117 = .ok (.iconst 1, 1) := by decide +kernel
theorem dX3_readParts_118 : decode cX3_readParts 118 = .ok (.goto 4, 3) := by decide +kernel
theorem dX3_readParts_121 : decode cX3_readParts 121 = .ok (.iconst 0, 1) := by decide +kernel
theorem dX3_readParts_122 : decode cX3_readParts 122 = .ok (.ireturn, 1) := by decide +kernel
theorem dX3_readParts_123 : decode cX3_readParts 123 = .ok (.aload_n 0, 1) := by decide +kernel
theorem dX3_readParts_124 : decode cX3_readParts 124 = .ok (.bipush 114, 2) := by decide +kernel
theorem dX3_readParts_126 : decode cX3_readParts 126 = .ok (.invokevirtual 39, 3) := by decide +kernel
theorem dX3_readParts_129 : decode cX3_readParts 129 = .ok (.ifCond .eq 26, 3) := by decide +kernel
theorem dX3_readParts_132 : decode cX3_readParts 132 = .ok (.aload_n 0, 1) := by decide +kernel
theorem dX3_readParts_133 : decode cX3_readParts 133 = .ok (.invokevirtual 50, 3) := by decide +kernel
theorem dX3_readParts_136 : decode cX3_readParts 136 = .ok (.ifCond .eq 19, 3) := by decide +kernel
theorem dX3_readParts_139 : decode cX3_readParts 139 = .ok (.aload_n 0, 1) := by decide +kernel
theorem dX3_readParts_140 : decode cX3_readParts 140 = .ok (.iconst 2, 1) := by decide +kernel
theorem dX3_readParts_141 : decode cX3_readParts 141 = .ok (.bipush 6, 2) := by decide +kernel
theorem dX3_readParts_143 : decode cX3_readParts 143 = .ok (.bipush 40, 2) := by decide +kernel
theorem dX3_readParts_145 : decode cX3_readParts 145 = .ok (.invokevirtual 46, 3) := by decide +kernel
theorem dX3_readParts_148 : decode cX3_readParts 148 = .ok (.ifCond .eq 7, 3) := by decide +kernel
theorem dX3_readParts_151 : decode cX3_readParts 151 = .ok (.iconst 1, 1) := by decide +kernel
theorem dX3_readParts_152 : decode cX3_readParts 152 = .ok (.goto 4, 3) := by decide +kernel
theorem dX3_readParts_155 : decode cX3_readParts 155 = .ok (.iconst 0, 1) := by decide +kernel
theorem dX3_readParts_156 : decode cX3_readParts 156 = .ok (.ireturn, 1) := by decide +kernel
theorem dX3_readParts_157 : decode cX3_readParts 157 = .ok (.aload_n 0, 1) := by decide +kernel
theorem dX3_readParts_158 : decode cX3_readParts 158 = .ok (.bipush 100, 2) := by decide +kernel
theorem dX3_readParts_160 : decode cX3_readParts 160 = .ok (.invokevirtual 39, 3) := by decide +kernel
theorem dX3_readParts_163 : decode cX3_readParts 163 = .ok (.ifCond .eq 18, 3) := by decide +kernel
theorem dX3_readParts_166 : decode cX3_readParts 166 = .ok (.aload_n 0, 1) := by decide +kernel
theorem dX3_readParts_167 : decode cX3_readParts 167 = .ok (.iconst 0, 1) := by decide +kernel
theorem dX3_readParts_168 : decode cX3_readParts 168 = .ok (.iconst 0, 1) := by decide +kernel
theorem dX3_readParts_169 : decode cX3_readParts 169 = .ok (.bipush 8, 2) := by decide +kernel
theorem dX3_readParts_171 : decode cX3_readParts 171 = .ok (.invokevirtual 46, 3) := by decide +kernel
theorem dX3_readParts_174 : decode cX3_readParts 174 = .ok (.ifCond .eq 7, 3) := by decide +kernel
theorem dX3_readParts_177 : decode cX3_readParts 177 = .ok (.iconst 1, 1) := by decide +kernel
theorem dX3_readParts_178 : decode cX3_readParts 178 = .ok (.goto 4, 3) := by decide +kernel
theorem dX3_readParts_181 : decode cX3_readParts 181 = .ok (.iconst 0, 1) := by decide +kernel
theorem dX3_readParts_182 : decode cX3_readParts 182 = .ok (.ireturn, 1) := by decide +kernel
theorem dX3_readParts_183 : decode cX3_readParts 183 = .ok (.iconst 0, 1) := by decide +kernel
theorem dX3_readParts_184 : decode cX3_readParts 184 = .ok (.ireturn, 1) := by decide +kernel
theorem dX3_readSpot_0 : decode cX3_readSpot 0 = .ok (.aload_n 0, 1) := by decide +kernel
theorem dX3_readSpot_1 : decode cX3_readSpot 1 = .ok (.iconst 0, 1) := by decide +kernel
theorem dX3_readSpot_2 : decode cX3_readSpot 2 = .ok (.iconst 0, 1) := by decide +kernel
theorem dX3_readSpot_3 : decode cX3_readSpot 3 = .ok (.bipush 8, 2) := by decide +kernel
theorem dX3_readSpot_5 : decode cX3_readSpot 5 = .ok (.invokevirtual 46, 3) := by decide +kernel
theorem dX3_readSpot_8 : decode cX3_readSpot 8 = .ok (.ifCond .eq 35, 3) := by decide +kernel
theorem dX3_readSpot_11 : decode cX3_readSpot 11 = .ok (.aload_n 0, 1) := by decide +kernel
theorem dX3_readSpot_12 : decode cX3_readSpot 12 = .ok (.bipush 46, 2) := by decide +kernel
theorem dX3_readSpot_14 : decode cX3_readSpot 14 = .ok (.invokevirtual 39, 3) := by decide +kernel
theorem dX3_readSpot_17 : decode cX3_readSpot 17 = .ok (.ifCond .eq 26, 3) := by decide +kernel
theorem dX3_readSpot_20 : decode cX3_readSpot 20 = .ok (.aload_n 0, 1) := by decide +kernel
theorem dX3_readSpot_21 : decode cX3_readSpot 21 = .ok (.iconst 1, 1) := by decide +kernel
theorem dX3_readSpot_22 : decode cX3_readSpot 22 = .ok (.iconst 0, 1) := by decide +kernel
theorem dX3_readSpot_23 : decode cX3_readSpot 23 = .ok (.iconst 1, 1) := by decide +kernel
theorem dX3_readSpot_24 : decode cX3_readSpot 24 = .ok (.invokevirtual 46, 3) := by decide +kernel
theorem dX3_readSpot_27 : decode cX3_readSpot 27 = .ok (.ifCond .eq 16, 3) := by decide +kernel
theorem dX3_readSpot_30 : decode cX3_readSpot 30 = .ok (.aload_n 0, 1) := by decide +kernel
theorem dX3_readSpot_31 : decode cX3_readSpot 31 = .ok (.bipush 61, 2) := by decide +kernel
theorem dX3_readSpot_33 : decode cX3_readSpot 33 = .ok (.invokevirtual 39, 3) := by decide +kernel
theorem dX3_readSpot_36 : decode cX3_readSpot 36 = .ok (.ifCond .eq 7, 3) := by decide +kernel
theorem dX3_readSpot_39 : decode cX3_readSpot 39 = .ok (.iconst 1, 1) := by decide +kernel
theorem dX3_readSpot_40 : decode cX3_readSpot 40 = .ok (.goto 4, 3) := by decide +kernel
theorem dX3_readSpot_43 : decode cX3_readSpot 43 = .ok (.iconst 0, 1) := by decide +kernel
theorem dX3_readSpot_44 : decode cX3_readSpot 44 = .ok (.ireturn, 1) := by decide +kernel
theorem dX3_readSign_0 : decode cX3_readSign 0 = .ok (.aload_n 0, 1) := by decide +kernel
theorem dX3_readSign_1 : decode cX3_readSign 1 = .ok (.getfield 28, 3) := by decide +kernel
theorem dX3_readSign_4 : decode cX3_readSign 4 = .ok (.aload_n 0, 1) := by decide +kernel
theorem dX3_readSign_5 : decode cX3_readSign 5 = .ok (.getfield 15, 3) := by decide +kernel
theorem dX3_readSign_8 : decode cX3_readSign 8 = .ok (.if_icmp .ge 16, 3) := by decide +kernel
theorem dX3_readSign_11 : decode cX3_readSign 11 = .ok (.aload_n 0, 1) := by decide +kernel
theorem dX3_readSign_12 : decode cX3_readSign 12 = .ok (.getfield 9, 3) := by decide +kernel
theorem dX3_readSign_15 : decode cX3_readSign 15 = .ok (.aload_n 0, 1) := by decide +kernel
theorem dX3_readSign_16 : decode cX3_readSign 16 = .ok (.getfield 28, 3) := by decide +kernel
theorem dX3_readSign_19 : decode cX3_readSign 19 = .ok (.iaload, 1) := by decide +kernel
theorem dX3_readSign_20 : decode cX3_readSign 20 = .ok (.iload_n 1, 1) := by decide +kernel
theorem dX3_readSign_21 : decode cX3_readSign 21 = .ok (.if_icmp .eq 5, 3) := by decide +kernel
theorem dX3_readSign_24 : decode cX3_readSign 24 = .ok (.iconst 0, 1) := by decide +kernel
theorem dX3_readSign_25 : decode cX3_readSign 25 = .ok (.ireturn, 1) := by decide +kernel
theorem dX3_readSign_26 : decode cX3_readSign 26 = .ok (.aload_n 0, 1) := by decide +kernel
theorem dX3_readSign_27 : decode cX3_readSign 27 = .ok (.dup, 1) := by decide +kernel
theorem dX3_readSign_28 : decode cX3_readSign 28 = .ok (.getfield 28, 3) := by decide +kernel
theorem dX3_readSign_31 : decode cX3_readSign 31 = .ok (.iconst 1, 1) := by decide +kernel
theorem dX3_readSign_32 : decode cX3_readSign 32 = .ok (.iadd, 1) := by decide +kernel
theorem dX3_readSign_33 : decode cX3_readSign 33 = .ok (.putfield 28, 3) := by decide +kernel
theorem dX3_readSign_36 : decode cX3_readSign 36 = .ok (.iconst 1, 1) := by decide +kernel
theorem dX3_readSign_37 : decode cX3_readSign 37 = .ok (.ireturn, 1) := by decide +kernel
theorem dX3_readPart_0 : decode cX3_readPart 0 = .ok (.iconst (-1), 1) := by decide +kernel
theorem dX3_readPart_1 : decode cX3_readPart 1 = .ok (.istore 4, 2) := by decide +kernel
theorem dX3_readPart_3 : decode cX3_readPart 3 = .ok (.iconst 0, 1) := by decide +kernel
theorem dX3_readPart_4 : decode cX3_readPart 4 = .ok (.istore 5, 2) := by decide +kernel
theorem dX3_readPart_6 : decode cX3_readPart 6 = .ok (.iload 5, 2) := by decide +kernel
theorem dX3_readPart_8 : decode cX3_readPart 8 = .ok (.bipush 60, 2) := by decide +kernel
theorem dX3_readPart_10 : decode cX3_readPart 10 = .ok (.if_icmp .ge 99, 3) := by decide +kernel
theorem dX3_readPart_13 : decode cX3_readPart 13 = .ok (.aload_n 0, 1) := by decide +kernel
theorem dX3_readPart_14 : decode cX3_readPart 14 = .ok (.getfield 28, 3) := by decide +kernel
theorem dX3_readPart_17 : decode cX3_readPart 17 = .ok (.aload_n 0, 1) := by decide +kernel
theorem dX3_readPart_18 : decode cX3_readPart 18 = .ok (.getfield 15, 3) := by decide +kernel
theorem dX3_readPart_21 : decode cX3_readPart 21 = .ok (.if_icmp .ge 88, 3) := by decide +kernel
theorem dX3_readPart_24 : decode cX3_readPart 24 = .ok (.iload 4, 2) := by decide +kernel
theorem dX3_readPart_26 : decode cX3_readPart 26 = .ok (.ifCond .eq 83, 3) := by decide +kernel
theorem dX3_readPart_29 : decode cX3_readPart 29 = .ok (.aload_n 0, 1) := by decide +kernel
theorem dX3_readPart_30 : decode cX3_readPart 30 = .ok (.getfield 9, 3) := by decide +kernel
theorem dX3_readPart_33 : decode cX3_readPart 33 = .ok (.aload_n 0, 1) := by decide +kernel
theorem dX3_readPart_34 : decode cX3_readPart 34 = .ok (.getfield 28, 3) := by decide +kernel
theorem dX3_readPart_37 : decode cX3_readPart 37 = .ok (.iaload, 1) := by decide +kernel
theorem dX3_readPart_38 : decode cX3_readPart 38 = .ok (.bipush 48, 2) := by decide +kernel
theorem dX3_readPart_40 : decode cX3_readPart 40 = .ok (.isub, 1) := by decide +kernel
theorem dX3_readPart_41 : decode cX3_readPart 41 = .ok (.istore 6, 2) := by decide +kernel
theorem dX3_readPart_43 : decode cX3_readPart 43 = .ok (.iload 4, 2) := by decide +kernel
theorem dX3_readPart_45 : decode cX3_readPart 45 = .ok (.iconst (-1), 1) := by decide +kernel
theorem dX3_readPart_46 : decode cX3_readPart 46 = .ok (.if_icmp .ne 8, 3) := by decide +kernel
theorem dX3_readPart_49 : decode cX3_readPart 49 = .ok (.iload 6, 2) := by decide +kernel
theorem dX3_readPart_51 : decode cX3_readPart 51 = .ok (.goto 11, 3) := by decide +kernel
theorem dX3_readPart_54 : decode cX3_readPart 54 = .ok (.iload 4, 2) := by decide +kernel
theorem dX3_readPart_56 : decode cX3_readPart 56 = .ok (.bipush 10, 2) := by decide +kernel
theorem dX3_readPart_58 : decode cX3_readPart 58 = .ok (.imul, 1) := by decide +kernel
theorem dX3_readPart_59 : decode cX3_readPart 59 = .ok (.iload 6, 2) := by decide +kernel
theorem dX3_readPart_61 : decode cX3_readPart 61 = .ok (.iadd, 1) := by decide +kernel
theorem dX3_readPart_62 : decode cX3_readPart 62 = .ok (.istore 7, 2) := by decide +kernel
theorem dX3_readPart_64 : decode cX3_readPart 64 = .ok (.iload 6, 2) := by decide +kernel
theorem dX3_readPart_66 : decode cX3_readPart 66 = .ok (.ifCond .lt 43, 3) := by decide +kernel
theorem dX3_readPart_69 : decode cX3_readPart 69 = .ok (.iload 6, 2) := by decide +kernel
theorem dX3_readPart_71 : decode cX3_readPart 71 = .ok (.bipush 9, 2) := by decide +kernel
theorem dX3_readPart_73 : decode cX3_readPart 73 = .ok (.if_icmp .gt 36, 3) := by decide +kernel
theorem dX3_readPart_76 : decode cX3_readPart 76 = .ok (.iload 7, 2) := by decide +kernel
theorem dX3_readPart_78 : decode cX3_readPart 78 = .ok (.iload_n 2, 1) := by decide +kernel
theorem dX3_readPart_79 : decode cX3_readPart 79 = .ok (.iload_n 3, 1) := by decide +kernel
theorem dX3_readPart_80 : decode cX3_readPart 80 = .ok (.invokestatic 53, 3) := by decide +kernel
theorem dX3_readPart_83 : decode cX3_readPart 83 = .ok (.ifCond .ne 6, 3) := by decide +kernel
theorem dX3_readPart_86 : decode cX3_readPart 86 = .ok (.goto 23, 3) := by decide +kernel
theorem dX3_readPart_89 : decode cX3_readPart 89 = .ok (.iload 7, 2) := by decide +kernel
theorem dX3_readPart_91 : decode cX3_readPart 91 = .ok (.istore 4, 2) := by decide +kernel
theorem dX3_readPart_93 : decode cX3_readPart 93 = .ok (.aload_n 0, 1) := by decide +kernel
theorem dX3_readPart_94 : decode cX3_readPart 94 = .ok (.dup, 1) := by decide +kernel
theorem dX3_readPart_95 : decode cX3_readPart 95 = .ok (.getfield 28, 3) := by decide +kernel
theorem dX3_readPart_98 : decode cX3_readPart 98 = .ok (.iconst 1, 1) := by decide +kernel
theorem dX3_readPart_99 : decode cX3_readPart 99 = .ok (.iadd, 1) := by decide +kernel
theorem dX3_readPart_100 : decode cX3_readPart 100 = .ok (.putfield 28, 3) := by decide +kernel
theorem dX3_readPart_103 : decode cX3_readPart 103 = .ok (.iinc 5 1, 3) := by decide +kernel
theorem dX3_readPart_106 : decode cX3_readPart 106 = .ok (.goto (-100), 3) := by decide +kernel
theorem dX3_readPart_109 : decode cX3_readPart 109 = .ok (.aload_n 0, 1) := by decide +kernel
theorem dX3_readPart_110 : decode cX3_readPart 110 = .ok (.getfield 22, 3) := by decide +kernel
theorem dX3_readPart_113 : decode cX3_readPart 113 = .ok (.aload_n 0, 1) := by decide +kernel
theorem dX3_readPart_114 : decode cX3_readPart 114 = .ok (.getfield 25, 3) := by decide +kernel
theorem dX3_readPart_117 : decode cX3_readPart 117 = .ok (.iconst 3, 1) := by decide +kernel
theorem dX3_readPart_118 : decode cX3_readPart 118 = .ok (.imul, 1) := by decide +kernel
theorem dX3_readPart_119 : decode cX3_readPart 119 = .ok (.iload_n 1, 1) := by decide +kernel
theorem dX3_readPart_120 : decode cX3_readPart 120 = .ok (.iadd, 1) := by decide +kernel
theorem dX3_readPart_121 : decode cX3_readPart 121 = .ok (.iload 4, 2) := by decide +kernel
theorem dX3_readPart_123 : decode cX3_readPart 123 = .ok (.iastore, 1) := by decide +kernel
theorem dX3_readPart_124 : decode cX3_readPart 124 = .ok (.iload 4, 2) := by decide +kernel
theorem dX3_readPart_126 : decode cX3_readPart 126 = .ok (.iload_n 2, 1) := by decide +kernel
theorem dX3_readPart_127 : decode cX3_readPart 127 = .ok (.if_icmp .lt 13, 3) := by decide +kernel
theorem dX3_readPart_130 : decode cX3_readPart 130 = .ok (.iload 4, 2) := by decide +kernel
theorem dX3_readPart_132 : decode cX3_readPart 132 = .ok (.iload_n 3, 1) := by decide +kernel
theorem dX3_readPart_133 : decode cX3_readPart 133 = .ok (.if_icmp .gt 7, 3) := by decide +kernel
theorem dX3_readPart_136 : decode cX3_readPart 136 = .ok (.iconst 1, 1) := by decide +kernel
theorem dX3_readPart_137 : decode cX3_readPart 137 = .ok (.goto 4, 3) := by decide +kernel
theorem dX3_readPart_140 : decode cX3_readPart 140 = .ok (.iconst 0, 1) := by decide +kernel
theorem dX3_readPart_141 : decode cX3_readPart 141 = .ok (.ireturn, 1) := by decide +kernel
theorem dX3_beginsNumber_0 : decode cX3_beginsNumber 0 = .ok (.iload_n 0, 1) := by decide +kernel
theorem dX3_beginsNumber_1 : decode cX3_beginsNumber 1 = .ok (.iload_n 1, 1) := by decide +kernel
theorem dX3_beginsNumber_2 : decode cX3_beginsNumber 2 = .ok (.if_icmp .lt 10, 3) := by decide +kernel
theorem dX3_beginsNumber_5 : decode cX3_beginsNumber 5 = .ok (.iload_n 0, 1) := by decide +kernel
theorem dX3_beginsNumber_6 : decode cX3_beginsNumber 6 = .ok (.iload_n 2, 1) := by decide +kernel
theorem dX3_beginsNumber_7 : decode cX3_beginsNumber 7 = .ok (.if_icmp .gt 5, 3) := by decide +kernel
theorem dX3_beginsNumber_10 : decode cX3_beginsNumber 10 = .ok (.iconst 1, 1) := by decide +kernel
theorem dX3_beginsNumber_11 : decode cX3_beginsNumber 11 = .ok (.ireturn, 1) := by decide +kernel
theorem dX3_beginsNumber_12 : decode cX3_beginsNumber 12 = .ok (.iload_n 0, 1) := by decide +kernel
theorem dX3_beginsNumber_13 : decode cX3_beginsNumber 13 = .ok (.ifCond .le 26, 3) := by decide +kernel
theorem dX3_beginsNumber_16 : decode cX3_beginsNumber 16 = .ok (.iload_n 0, 1) := by decide +kernel
theorem dX3_beginsNumber_17 : decode cX3_beginsNumber 17 = .ok (.bipush 10, 2) := by decide +kernel
theorem dX3_beginsNumber_19 : decode cX3_beginsNumber 19 = .ok (.imul, 1) := by decide +kernel
theorem dX3_beginsNumber_20 : decode cX3_beginsNumber 20 = .ok (.iload_n 2, 1) := by decide +kernel
theorem dX3_beginsNumber_21 : decode cX3_beginsNumber 21 = .ok (.if_icmp .gt 18, 3) := by decide +kernel
theorem dX3_beginsNumber_24 : decode cX3_beginsNumber 24 = .ok (.iload_n 0, 1) := by decide +kernel
theorem dX3_beginsNumber_25 : decode cX3_beginsNumber 25 = .ok (.bipush 10, 2) := by decide +kernel
theorem dX3_beginsNumber_27 : decode cX3_beginsNumber 27 = .ok (.imul, 1) := by decide +kernel
theorem dX3_beginsNumber_28 : decode cX3_beginsNumber 28 = .ok (.bipush 9, 2) := by decide +kernel
theorem dX3_beginsNumber_30 : decode cX3_beginsNumber 30 = .ok (.iadd, 1) := by decide +kernel
theorem dX3_beginsNumber_31 : decode cX3_beginsNumber 31 = .ok (.iload_n 1, 1) := by decide +kernel
theorem dX3_beginsNumber_32 : decode cX3_beginsNumber 32 = .ok (.if_icmp .lt 7, 3) := by decide +kernel
theorem dX3_beginsNumber_35 : decode cX3_beginsNumber 35 = .ok (.iconst 1, 1) := by decide +kernel
theorem dX3_beginsNumber_36 : decode cX3_beginsNumber 36 = .ok (.goto 4, 3) := by decide +kernel
theorem dX3_beginsNumber_39 : decode cX3_beginsNumber 39 = .ok (.iconst 0, 1) := by decide +kernel
theorem dX3_beginsNumber_40 : decode cX3_beginsNumber 40 = .ok (.ireturn, 1) := by decide +kernel
theorem dX3_mixInto_0 : decode cX3_mixInto 0 = .ok (.lload_n 1, 1) := by decide +kernel
theorem dX3_mixInto_1 : decode cX3_mixInto 1 = .ok (.aload_n 0, 1) := by decide +kernel
theorem dX3_mixInto_2 : decode cX3_mixInto 2 = .ok (.getfield 15, 3) := by decide +kernel
theorem dX3_mixInto_5 : decode cX3_mixInto 5 = .ok (.i2l, 1) := by decide +kernel
theorem dX3_mixInto_6 : decode cX3_mixInto 6 = .ok (.invokestatic 56, 3) := by decide +kernel
theorem dX3_mixInto_9 : decode cX3_mixInto 9 = .ok (.lstore_n 3, 1) := by decide +kernel
theorem dX3_mixInto_10 : decode cX3_mixInto 10 = .ok (.iconst 0, 1) := by decide +kernel
theorem dX3_mixInto_11 : decode cX3_mixInto 11 = .ok (.istore 5, 2) := by decide +kernel
theorem dX3_mixInto_13 : decode cX3_mixInto 13 = .ok (.iload 5, 2) := by decide +kernel
theorem dX3_mixInto_15 : decode cX3_mixInto 15 = .ok (.aload_n 0, 1) := by decide +kernel
theorem dX3_mixInto_16 : decode cX3_mixInto 16 = .ok (.getfield 15, 3) := by decide +kernel
theorem dX3_mixInto_19 : decode cX3_mixInto 19 = .ok (.if_icmp .ge 22, 3) := by decide +kernel
theorem dX3_mixInto_22 : decode cX3_mixInto 22 = .ok (.lload_n 3, 1) := by decide +kernel
theorem dX3_mixInto_23 : decode cX3_mixInto 23 = .ok (.aload_n 0, 1) := by decide +kernel
theorem dX3_mixInto_24 : decode cX3_mixInto 24 = .ok (.getfield 9, 3) := by decide +kernel
theorem dX3_mixInto_27 : decode cX3_mixInto 27 = .ok (.iload 5, 2) := by decide +kernel
theorem dX3_mixInto_29 : decode cX3_mixInto 29 = .ok (.iaload, 1) := by decide +kernel
theorem dX3_mixInto_30 : decode cX3_mixInto 30 = .ok (.i2l, 1) := by decide +kernel
theorem dX3_mixInto_31 : decode cX3_mixInto 31 = .ok (.invokestatic 56, 3) := by decide +kernel
theorem dX3_mixInto_34 : decode cX3_mixInto 34 = .ok (.lstore_n 3, 1) := by decide +kernel
theorem dX3_mixInto_35 : decode cX3_mixInto 35 = .ok (.iinc 5 1, 3) := by decide +kernel
theorem dX3_mixInto_38 : decode cX3_mixInto 38 = .ok (.goto (-25), 3) := by decide +kernel
theorem dX3_mixInto_41 : decode cX3_mixInto 41 = .ok (.lload_n 3, 1) := by decide +kernel
theorem dX3_mixInto_42 : decode cX3_mixInto 42 = .ok (.lreturn, 1) := by decide +kernel
theorem dX4_init_0 : decode cX4_init 0 = .ok (.aload_n 0, 1) := by decide +kernel
theorem dX4_init_1 : decode cX4_init 1 = .ok (.invokespecial 3, 3) := by decide +kernel
theorem dX4_init_4 : decode cX4_init 4 = .ok (.aload_n 0, 1) := by decide +kernel
theorem dX4_init_5 : decode cX4_init 5 = .ok (.bipush 81, 2) := by decide +kernel
theorem dX4_init_7 : decode cX4_init 7 = .ok (.newarray .int, 2) := by decide +kernel
theorem dX4_init_9 : decode cX4_init 9 = .ok (.putfield 9, 3) := by decide +kernel
theorem dX4_init_12 : decode cX4_init 12 = .ok (.aload_n 0, 1) := by decide +kernel
theorem dX4_init_13 : decode cX4_init 13 = .ok (.bipush 9, 2) := by decide +kernel
theorem dX4_init_15 : decode cX4_init 15 = .ok (.newarray .long, 2) := by decide +kernel
theorem dX4_init_17 : decode cX4_init 17 = .ok (.putfield 15, 3) := by decide +kernel
theorem dX4_init_20 : decode cX4_init 20 = .ok (.aload_n 0, 1) := by decide +kernel
theorem dX4_init_21 : decode cX4_init 21 = .ok (.bipush 9, 2) := by decide +kernel
theorem dX4_init_23 : decode cX4_init 23 = .ok (.newarray .long, 2) := by decide +kernel
theorem dX4_init_25 : decode cX4_init 25 = .ok (.putfield 19, 3) := by decide +kernel
theorem dX4_init_28 : decode cX4_init 28 = .ok (.aload_n 0, 1) := by decide +kernel
theorem dX4_init_29 : decode cX4_init 29 = .ok (.bipush 9, 2) := by decide +kernel
theorem dX4_init_31 : decode cX4_init 31 = .ok (.newarray .boolean, 2) := by decide +kernel
theorem dX4_init_33 : decode cX4_init 33 = .ok (.putfield 22, 3) := by decide +kernel
theorem dX4_init_36 : decode cX4_init 36 = .ok (.aload_n 0, 1) := by decide +kernel
theorem dX4_init_37 : decode cX4_init 37 = .ok (.bipush 9, 2) := by decide +kernel
theorem dX4_init_39 : decode cX4_init 39 = .ok (.newarray .int, 2) := by decide +kernel
theorem dX4_init_41 : decode cX4_init 41 = .ok (.putfield 26, 3) := by decide +kernel
theorem dX4_init_44 : decode cX4_init 44 = .ok (.aload_n 0, 1) := by decide +kernel
theorem dX4_init_45 : decode cX4_init 45 = .ok (.iconst 0, 1) := by decide +kernel
theorem dX4_init_46 : decode cX4_init 46 = .ok (.putfield 29, 3) := by decide +kernel
theorem dX4_init_49 : decode cX4_init 49 = .ok (.aload_n 0, 1) := by decide +kernel
theorem dX4_init_50 : decode cX4_init 50 = .ok (.iconst 0, 1) := by decide +kernel
theorem dX4_init_51 : decode cX4_init 51 = .ok (.putfield 33, 3) := by decide +kernel
theorem dX4_init_54 : decode cX4_init 54 = .ok (.return_, 1) := by decide +kernel
theorem dX4_solve_0 : decode cX4_solve 0 = .ok (.aload_n 0, 1) := by decide +kernel
theorem dX4_solve_1 : decode cX4_solve 1 = .ok (.aload_n 1, 1) := by decide +kernel
theorem dX4_solve_2 : decode cX4_solve 2 = .ok (.invokevirtual 37, 3) := by decide +kernel
theorem dX4_solve_5 : decode cX4_solve 5 = .ok (.aload_n 0, 1) := by decide +kernel
theorem dX4_solve_6 : decode cX4_solve 6 = .ok (.invokevirtual 41, 3) := by decide +kernel
theorem dX4_solve_9 : decode cX4_solve 9 = .ok (.iconst 0, 1) := by decide +kernel
theorem dX4_solve_10 : decode cX4_solve 10 = .ok (.istore_n 2, 1) := by decide +kernel
theorem dX4_solve_11 : decode cX4_solve 11 = .ok (.iload_n 2, 1) := by decide +kernel
theorem dX4_solve_12 : decode cX4_solve 12 = .ok (.bipush 9, 2) := by decide +kernel
theorem dX4_solve_14 : decode cX4_solve 14 = .ok (.if_icmp .ge 16, 3) := by decide +kernel
theorem dX4_solve_17 : decode cX4_solve 17 = .ok (.aload_n 0, 1) := by decide +kernel
theorem dX4_solve_18 : decode cX4_solve 18 = .ok (.getfield 22, 3) := by decide +kernel
theorem dX4_solve_21 : decode cX4_solve 21 = .ok (.iload_n 2, 1) := by decide +kernel
theorem dX4_solve_22 : decode cX4_solve 22 = .ok (.iconst 0, 1) := by decide +kernel
theorem dX4_solve_23 : decode cX4_solve 23 = .ok (.bastore, 1) := by decide +kernel
theorem dX4_solve_24 : decode cX4_solve 24 = .ok (.iinc 2 1, 3) := by decide +kernel
theorem dX4_solve_27 : decode cX4_solve 27 = .ok (.goto (-16), 3) := by decide +kernel
theorem dX4_solve_30 : decode cX4_solve 30 = .ok (.aload_n 0, 1) := by decide +kernel
theorem dX4_solve_31 : decode cX4_solve 31 = .ok (.iconst 0, 1) := by decide +kernel
theorem dX4_solve_32 : decode cX4_solve 32 = .ok (.putfield 29, 3) := by decide +kernel
theorem dX4_solve_35 : decode cX4_solve 35 = .ok (.aload_n 0, 1) := by decide +kernel
theorem dX4_solve_36 : decode cX4_solve 36 = .ok (.iconst 0, 1) := by decide +kernel
theorem dX4_solve_37 : decode cX4_solve 37 = .ok (.putfield 33, 3) := by decide +kernel
theorem dX4_solve_40 : decode cX4_solve 40 = .ok (.aload_n 1, 1) := by decide +kernel
theorem dX4_solve_41 : decode cX4_solve 41 = .ok (.aload_n 1, 1) := by decide +kernel
theorem dX4_solve_42 : decode cX4_solve 42 = .ok (.getfield 44, 3) := by decide +kernel
theorem dX4_solve_45 : decode cX4_solve 45 = .ok (.invokevirtual 49, 3) := by decide +kernel
theorem dX4_solve_48 : decode cX4_solve 48 = .ok (.ifCond .ne 4, 3) := by decide +kernel
theorem dX4_solve_51 : decode cX4_solve 51 = .ok (.return_, 1) := by decide +kernel
theorem dX4_solve_52 : decode cX4_solve 52 = .ok (.aload_n 0, 1) := by decide +kernel
theorem dX4_solve_53 : decode cX4_solve 53 = .ok (.aload_n 1, 1) := by decide +kernel
theorem dX4_solve_54 : decode cX4_solve 54 = .ok (.getfield 44, 3) := by decide +kernel
theorem dX4_solve_57 : decode cX4_solve 57 = .ok (.lconst 1, 1) := by decide +kernel
theorem dX4_solve_58 : decode cX4_solve 58 = .ok (.lconst 1, 1) := by decide +kernel
theorem dX4_solve_59 : decode cX4_solve 59 = .ok (.invokevirtual 53, 3) := by decide +kernel
theorem dX4_solve_62 : decode cX4_solve 62 = .ok (.iconst 0, 1) := by decide +kernel
theorem dX4_solve_63 : decode cX4_solve 63 = .ok (.istore_n 2, 1) := by decide +kernel
theorem dX4_solve_64 : decode cX4_solve 64 = .ok (.iload_n 2, 1) := by decide +kernel
theorem dX4_solve_65 : decode cX4_solve 65 = .ok (.aload_n 0, 1) := by decide +kernel
theorem dX4_solve_66 : decode cX4_solve 66 = .ok (.getfield 29, 3) := by decide +kernel
theorem dX4_solve_69 : decode cX4_solve 69 = .ok (.if_icmp .ge 26, 3) := by decide +kernel
theorem dX4_solve_72 : decode cX4_solve 72 = .ok (.iload_n 2, 1) := by decide +kernel
theorem dX4_solve_73 : decode cX4_solve 73 = .ok (.bipush 9, 2) := by decide +kernel
theorem dX4_solve_75 : decode cX4_solve 75 = .ok (.if_icmp .ge 20, 3) := by decide +kernel
theorem dX4_solve_78 : decode cX4_solve 78 = .ok (.aload_n 0, 1) := by decide +kernel
theorem dX4_solve_79 : decode cX4_solve 79 = .ok (.aload_n 1, 1) := by decide +kernel
theorem dX4_solve_80 : decode cX4_solve 80 = .ok (.aload_n 0, 1) := by decide +kernel
theorem dX4_solve_81 : decode cX4_solve 81 = .ok (.getfield 26, 3) := by decide +kernel
theorem dX4_solve_84 : decode cX4_solve 84 = .ok (.iload_n 2, 1) := by decide +kernel
theorem dX4_solve_85 : decode cX4_solve 85 = .ok (.iaload, 1) := by decide +kernel
theorem dX4_solve_86 : decode cX4_solve 86 = .ok (.invokevirtual 57, 3) := by decide +kernel
theorem dX4_solve_89 : decode cX4_solve 89 = .ok (.iinc 2 1, 3) := by decide +kernel
theorem dX4_solve_92 : decode cX4_solve 92 = .ok (.goto (-28), 3) := by decide +kernel
theorem dX4_solve_95 : decode cX4_solve 95 = .ok (.aload_n 0, 1) := by decide +kernel
theorem dX4_solve_96 : decode cX4_solve 96 = .ok (.getfield 33, 3) := by decide +kernel
theorem dX4_solve_99 : decode cX4_solve 99 = .ok (.ifCond .eq 7, 3) := by decide +kernel
theorem dX4_solve_102 : decode cX4_solve 102 = .ok (.aload_n 0, 1) := by decide +kernel
theorem dX4_solve_103 : decode cX4_solve 103 = .ok (.invokevirtual 41, 3) := by decide +kernel
theorem dX4_solve_106 : decode cX4_solve 106 = .ok (.return_, 1) := by decide +kernel
theorem dX4_findMeshing_0 : decode cX4_findMeshing 0 = .ok (.iconst 0, 1) := by decide +kernel
theorem dX4_findMeshing_1 : decode cX4_findMeshing 1 = .ok (.istore_n 2, 1) := by decide +kernel
theorem dX4_findMeshing_2 : decode cX4_findMeshing 2 = .ok (.iload_n 2, 1) := by decide +kernel
theorem dX4_findMeshing_3 : decode cX4_findMeshing 3 = .ok (.aload_n 1, 1) := by decide +kernel
theorem dX4_findMeshing_4 : decode cX4_findMeshing 4 = .ok (.getfield 61, 3) := by decide +kernel
theorem dX4_findMeshing_7 : decode cX4_findMeshing 7 = .ok (.if_icmp .ge 89, 3) := by decide +kernel
theorem dX4_findMeshing_10 : decode cX4_findMeshing 10 = .ok (.iload_n 2, 1) := by decide +kernel
theorem dX4_findMeshing_11 : decode cX4_findMeshing 11 = .ok (.istore_n 3, 1) := by decide +kernel
theorem dX4_findMeshing_12 : decode cX4_findMeshing 12 = .ok (.iload_n 3, 1) := by decide +kernel
theorem dX4_findMeshing_13 : decode cX4_findMeshing 13 = .ok (.aload_n 1, 1) := by decide +kernel
theorem dX4_findMeshing_14 : decode cX4_findMeshing 14 = .ok (.getfield 61, 3) := by decide +kernel
theorem dX4_findMeshing_17 : decode cX4_findMeshing 17 = .ok (.if_icmp .ge 73, 3) := by decide +kernel
theorem dX4_findMeshing_20 : decode cX4_findMeshing 20 = .ok (.iconst 0, 1) := by decide +kernel
theorem dX4_findMeshing_21 : decode cX4_findMeshing 21 = .ok (.istore 4, 2) := by decide +kernel
theorem dX4_findMeshing_23 : decode cX4_findMeshing 23 = .ok (.iconst 0, 1) := by decide +kernel
theorem dX4_findMeshing_24 : decode cX4_findMeshing 24 = .ok (.istore 5, 2) := by decide +kernel
theorem dX4_findMeshing_26 : decode cX4_findMeshing 26 = .ok (.iload 5, 2) := by decide +kernel
theorem dX4_findMeshing_28 : decode cX4_findMeshing 28 = .ok (.iconst 2, 1) := by decide +kernel
theorem dX4_findMeshing_29 : decode cX4_findMeshing 29 = .ok (.if_icmp .ge 29, 3) := by decide +kernel
theorem dX4_findMeshing_32 : decode cX4_findMeshing 32 = .ok (.aload_n 1, 1) := by decide +kernel
theorem dX4_findMeshing_33 : decode cX4_findMeshing 33 = .ok (.iload_n 2, 1) := by decide +kernel
theorem dX4_findMeshing_34 : decode cX4_findMeshing 34 = .ok (.iload_n 3, 1) := by decide +kernel
theorem dX4_findMeshing_35 : decode cX4_findMeshing 35 = .ok (.iload 5, 2) := by decide +kernel
theorem dX4_findMeshing_37 : decode cX4_findMeshing 37 = .ok (.invokevirtual 64, 3) := by decide +kernel
theorem dX4_findMeshing_40 : decode cX4_findMeshing 40 = .ok (.ifCond .eq 12, 3) := by decide +kernel
theorem dX4_findMeshing_43 : decode cX4_findMeshing 43 = .ok (.iload 4, 2) := by decide +kernel
theorem dX4_findMeshing_45 : decode cX4_findMeshing 45 = .ok (.iload 5, 2) := by decide +kernel
theorem dX4_findMeshing_47 : decode cX4_findMeshing 47 = .ok (.iconst 1, 1) := by decide +kernel
theorem dX4_findMeshing_48 : decode cX4_findMeshing 48 = .ok (.iadd, 1) := by decide +kernel
theorem dX4_findMeshing_49 : decode cX4_findMeshing 49 = .ok (.iadd, 1) := by decide +kernel
theorem dX4_findMeshing_50 : decode cX4_findMeshing 50 = .ok (.istore 4, 2) := by decide +kernel
theorem dX4_findMeshing_52 : decode cX4_findMeshing 52 = .ok (.iinc 5 1, 3) := by decide +kernel
theorem dX4_findMeshing_55 : decode cX4_findMeshing 55 = .ok (.goto (-29), 3) := by decide +kernel
theorem dX4_findMeshing_58 : decode cX4_findMeshing 58 = .ok (.aload_n 0, 1) := by decide +kernel
theorem dX4_findMeshing_59 : decode cX4_findMeshing 59 = .ok (.getfield 9, 3) := by decide +kernel
theorem dX4_findMeshing_62 : decode cX4_findMeshing 62 = .ok (.iload_n 2, 1) := by decide +kernel
theorem dX4_findMeshing_63 : decode cX4_findMeshing 63 = .ok (.bipush 9, 2) := by decide +kernel
theorem dX4_findMeshing_65 : decode cX4_findMeshing 65 = .ok (.imul, 1) := by decide +kernel
theorem dX4_findMeshing_66 : decode cX4_findMeshing 66 = .ok (.iload_n 3, 1) := by decide +kernel
theorem dX4_findMeshing_67 : decode cX4_findMeshing 67 = .ok (.iadd, 1) := by decide +kernel
theorem dX4_findMeshing_68 : decode cX4_findMeshing 68 = .ok (.iload 4, 2) := by decide +kernel
theorem dX4_findMeshing_70 : decode cX4_findMeshing 70 = .ok (.iastore, 1) := by decide +kernel
theorem dX4_findMeshing_71 : decode cX4_findMeshing 71 = .ok (.aload_n 0, 1) := by decide +kernel
theorem dX4_findMeshing_72 : decode cX4_findMeshing 72 = .ok (.getfield 9, 3) := by decide +kernel
theorem dX4_findMeshing_75 : decode cX4_findMeshing 75 = .ok (.iload_n 3, 1) := by decide +kernel
theorem dX4_findMeshing_76 : decode cX4_findMeshing 76 = .ok (.bipush 9, 2) := by decide +kernel
theorem dX4_findMeshing_78 : decode cX4_findMeshing 78 = .ok (.imul, 1) := by decide +kernel
theorem dX4_findMeshing_79 : decode cX4_findMeshing 79 = .ok (.iload_n 2, 1) := by decide +kernel
theorem dX4_findMeshing_80 : decode cX4_findMeshing 80 = .ok (.iadd, 1) := by decide +kernel
theorem dX4_findMeshing_81 : decode cX4_findMeshing 81 = .ok (.iload 4, 2) := by decide +kernel
theorem dX4_findMeshing_83 : decode cX4_findMeshing 83 = .ok (.iastore, 1) := by decide +kernel
theorem dX4_findMeshing_84 : decode cX4_findMeshing 84 = .ok (.iinc 3 1, 3) := by decide +kernel
theorem dX4_findMeshing_87 : decode cX4_findMeshing 87 = .ok (.goto (-75), 3) := by decide +kernel
theorem dX4_findMeshing_90 : decode cX4_findMeshing 90 = .ok (.iinc 2 1, 3) := by decide +kernel
theorem dX4_findMeshing_93 : decode cX4_findMeshing 93 = .ok (.goto (-91), 3) := by decide +kernel
theorem dX4_findMeshing_96 : decode cX4_findMeshing 96 = .ok (.return_, 1) := by decide +kernel
theorem dX4_stop_0 : decode cX4_stop 0 = .ok (.iconst 0, 1) := by decide +kernel
theorem dX4_stop_1 : decode cX4_stop 1 = .ok (.istore_n 1, 1) := by decide +kernel
theorem dX4_stop_2 : decode cX4_stop 2 = .ok (.iload_n 1, 1) := by decide +kernel
theorem dX4_stop_3 : decode cX4_stop 3 = .ok (.bipush 9, 2) := by decide +kernel
theorem dX4_stop_5 : decode cX4_stop 5 = .ok (.if_icmp .ge 23, 3) := by decide +kernel
theorem dX4_stop_8 : decode cX4_stop 8 = .ok (.aload_n 0, 1) := by decide +kernel
theorem dX4_stop_9 : decode cX4_stop 9 = .ok (.getfield 15, 3) := by decide +kernel
theorem dX4_stop_12 : decode cX4_stop 12 = .ok (.iload_n 1, 1) := by decide +kernel
theorem dX4_stop_13 : decode cX4_stop 13 = .ok (.lconst 0, 1) := by decide +kernel
theorem dX4_stop_14 : decode cX4_stop 14 = .ok (.lastore, 1) := by decide +kernel
theorem dX4_stop_15 : decode cX4_stop 15 = .ok (.aload_n 0, 1) := by decide +kernel
theorem dX4_stop_16 : decode cX4_stop 16 = .ok (.getfield 19, 3) := by decide +kernel
theorem dX4_stop_19 : decode cX4_stop 19 = .ok (.iload_n 1, 1) := by decide +kernel
theorem dX4_stop_20 : decode cX4_stop 20 = .ok (.lconst 1, 1) := by decide +kernel
theorem dX4_stop_21 : decode cX4_stop 21 = .ok (.lastore, 1) := by decide +kernel
theorem dX4_stop_22 : decode cX4_stop 22 = .ok (.iinc 1 1, 3) := by decide +kernel
theorem dX4_stop_25 : decode cX4_stop 25 = .ok (.goto (-23), 3) := by decide +kernel
theorem dX4_stop_28 : decode cX4_stop 28 = .ok (.return_, 1) := by decide +kernel
theorem dX4_join_0 : decode cX4_join 0 = .ok (.aload_n 0, 1) := by decide +kernel
theorem dX4_join_1 : decode cX4_join 1 = .ok (.getfield 29, 3) := by decide +kernel
theorem dX4_join_4 : decode cX4_join 4 = .ok (.bipush 9, 2) := by decide +kernel
theorem dX4_join_6 : decode cX4_join 6 = .ok (.if_icmp .lt 4, 3) := by decide +kernel
theorem dX4_join_9 : decode cX4_join 9 = .ok (.return_, 1) := by decide +kernel
theorem dX4_join_10 : decode cX4_join 10 = .ok (.aload_n 0, 1) := by decide +kernel
theorem dX4_join_11 : decode cX4_join 11 = .ok (.getfield 22, 3) := by decide +kernel
theorem dX4_join_14 : decode cX4_join 14 = .ok (.iload_n 1, 1) := by decide +kernel
theorem dX4_join_15 : decode cX4_join 15 = .ok (.iconst 1, 1) := by decide +kernel
theorem dX4_join_16 : decode cX4_join 16 = .ok (.bastore, 1) := by decide +kernel
theorem dX4_join_17 : decode cX4_join 17 = .ok (.aload_n 0, 1) := by decide +kernel
theorem dX4_join_18 : decode cX4_join 18 = .ok (.getfield 15, 3) := by decide +kernel
theorem dX4_join_21 : decode cX4_join 21 = .ok (.iload_n 1, 1) := by decide +kernel
theorem dX4_join_22 : decode cX4_join 22 = .ok (.lload_n 2, 1) := by decide +kernel
theorem dX4_join_23 : decode cX4_join 23 = .ok (.lastore, 1) := by decide +kernel
theorem dX4_join_24 : decode cX4_join 24 = .ok (.aload_n 0, 1) := by decide +kernel
theorem dX4_join_25 : decode cX4_join 25 = .ok (.getfield 19, 3) := by decide +kernel
theorem dX4_join_28 : decode cX4_join 28 = .ok (.iload_n 1, 1) := by decide +kernel
theorem dX4_join_29 : decode cX4_join 29 = .ok (.lload 4, 2) := by decide +kernel
theorem dX4_join_31 : decode cX4_join 31 = .ok (.lastore, 1) := by decide +kernel
theorem dX4_join_32 : decode cX4_join 32 = .ok (.aload_n 0, 1) := by decide +kernel
theorem dX4_join_33 : decode cX4_join 33 = .ok (.getfield 26, 3) := by decide +kernel
theorem dX4_join_36 : decode cX4_join 36 = .ok (.aload_n 0, 1) := by decide +kernel
theorem dX4_join_37 : decode cX4_join 37 = .ok (.getfield 29, 3) := by decide +kernel
theorem dX4_join_40 : decode cX4_join 40 = .ok (.iload_n 1, 1) := by decide +kernel
theorem dX4_join_41 : decode cX4_join 41 = .ok (.iastore, 1) := by decide +kernel
theorem dX4_join_42 : decode cX4_join 42 = .ok (.aload_n 0, 1) := by decide +kernel
theorem dX4_join_43 : decode cX4_join 43 = .ok (.dup, 1) := by decide +kernel
theorem dX4_join_44 : decode cX4_join 44 = .ok (.getfield 29, 3) := by decide +kernel
theorem dX4_join_47 : decode cX4_join 47 = .ok (.iconst 1, 1) := by decide +kernel
theorem dX4_join_48 : decode cX4_join 48 = .ok (.iadd, 1) := by decide +kernel
theorem dX4_join_49 : decode cX4_join 49 = .ok (.putfield 29, 3) := by decide +kernel
theorem dX4_join_52 : decode cX4_join 52 = .ok (.return_, 1) := by decide +kernel
theorem dX4_turnNeighbours_0 : decode cX4_turnNeighbours 0 = .ok (.iconst 0, 1) := by decide +kernel
theorem dX4_turnNeighbours_1 : decode cX4_turnNeighbours 1 = .ok (.istore_n 3, 1) := by decide +kernel
theorem dX4_turnNeighbours_2 : decode cX4_turnNeighbours 2 = .ok (.iload_n 3, 1) := by decide +kernel
theorem dX4_turnNeighbours_3 : decode cX4_turnNeighbours 3 = .ok (.aload_n 1, 1) := by decide +kernel
theorem dX4_turnNeighbours_4 : decode cX4_turnNeighbours 4 = .ok (.getfield 61, 3) := by decide +kernel
theorem dX4_turnNeighbours_7 : decode cX4_turnNeighbours 7 = .ok (.if_icmp .ge 44, 3) := by decide +kernel
theorem dX4_turnNeighbours_10 : decode cX4_turnNeighbours 10 = .ok (.iconst 0, 1) := by decide +kernel
theorem dX4_turnNeighbours_11 : decode cX4_turnNeighbours 11 = .ok (.istore 4, 2) := by decide +kernel
theorem dX4_turnNeighbours_13 : decode cX4_turnNeighbours 13 = .ok (.iload 4, 2) := by decide +kernel
theorem dX4_turnNeighbours_15 : decode cX4_turnNeighbours 15 = .ok (.iconst 2, 1) := by decide +kernel
theorem dX4_turnNeighbours_16 : decode cX4_turnNeighbours 16 = .ok (.if_icmp .ge 29, 3) := by decide +kernel
theorem dX4_turnNeighbours_19 : decode cX4_turnNeighbours 19 = .ok (.aload_n 0, 1) := by decide +kernel
theorem dX4_turnNeighbours_20 : decode cX4_turnNeighbours 20 = .ok (.iload_n 2, 1) := by decide +kernel
theorem dX4_turnNeighbours_21 : decode cX4_turnNeighbours 21 = .ok (.iload_n 3, 1) := by decide +kernel
theorem dX4_turnNeighbours_22 : decode cX4_turnNeighbours 22 = .ok (.iload 4, 2) := by decide +kernel
theorem dX4_turnNeighbours_24 : decode cX4_turnNeighbours 24 = .ok (.invokevirtual 68, 3) := by decide +kernel
theorem dX4_turnNeighbours_27 : decode cX4_turnNeighbours 27 = .ok (.ifCond .eq 12, 3) := by decide +kernel
theorem dX4_turnNeighbours_30 : decode cX4_turnNeighbours 30 = .ok (.aload_n 0, 1) := by decide +kernel
theorem dX4_turnNeighbours_31 : decode cX4_turnNeighbours 31 = .ok (.aload_n 1, 1) := by decide +kernel
theorem dX4_turnNeighbours_32 : decode cX4_turnNeighbours 32 = .ok (.iload_n 2, 1) := by decide +kernel
theorem dX4_turnNeighbours_33 : decode cX4_turnNeighbours 33 = .ok (.iload_n 3, 1) := by decide +kernel
theorem dX4_turnNeighbours_34 : decode cX4_turnNeighbours 34 = .ok (.iload 4, 2) := by decide +kernel
theorem dX4_turnNeighbours_36 : decode cX4_turnNeighbours 36 = .ok (.invokevirtual 71, 3) := by decide +kernel
theorem dX4_turnNeighbours_39 : decode cX4_turnNeighbours 39 = .ok (.iinc 4 1, 3) := by decide +kernel
theorem dX4_turnNeighbours_42 : decode cX4_turnNeighbours 42 = .ok (.goto (-29), 3) := by decide +kernel
theorem dX4_turnNeighbours_45 : decode cX4_turnNeighbours 45 = .ok (.iinc 3 1, 3) := by decide +kernel
theorem dX4_turnNeighbours_48 : decode cX4_turnNeighbours 48 = .ok (.goto (-46), 3) := by decide +kernel
theorem dX4_turnNeighbours_51 : decode cX4_turnNeighbours 51 = .ok (.return_, 1) := by decide +kernel
theorem dX4_turn_0 : decode cX4_turn 0 = .ok (.iload_n 2, 1) := by decide +kernel
theorem dX4_turn_1 : decode cX4_turn 1 = .ok (.iload 4, 2) := by decide +kernel
theorem dX4_turn_3 : decode cX4_turn 3 = .ok (.invokestatic 75, 3) := by decide +kernel
theorem dX4_turn_6 : decode cX4_turn 6 = .ok (.istore 5, 2) := by decide +kernel
theorem dX4_turn_8 : decode cX4_turn 8 = .ok (.iload_n 3, 1) := by decide +kernel
theorem dX4_turn_9 : decode cX4_turn 9 = .ok (.iload 4, 2) := by decide +kernel
theorem dX4_turn_11 : decode cX4_turn 11 = .ok (.invokestatic 75, 3) := by decide +kernel
theorem dX4_turn_14 : decode cX4_turn 14 = .ok (.istore 6, 2) := by decide +kernel
theorem dX4_turn_16 : decode cX4_turn 16 = .ok (.aload_n 0, 1) := by decide +kernel
theorem dX4_turn_17 : decode cX4_turn 17 = .ok (.getfield 15, 3) := by decide +kernel
theorem dX4_turn_20 : decode cX4_turn 20 = .ok (.iload_n 2, 1) := by decide +kernel
theorem dX4_turn_21 : decode cX4_turn 21 = .ok (.laload, 1) := by decide +kernel
theorem dX4_turn_22 : decode cX4_turn 22 = .ok (.aload_n 1, 1) := by decide +kernel
theorem dX4_turn_23 : decode cX4_turn 23 = .ok (.iload 5, 2) := by decide +kernel
theorem dX4_turn_25 : decode cX4_turn 25 = .ok (.iload 6, 2) := by decide +kernel
theorem dX4_turn_27 : decode cX4_turn 27 = .ok (.invokevirtual 79, 3) := by decide +kernel
theorem dX4_turn_30 : decode cX4_turn 30 = .ok (.i2l, 1) := by decide +kernel
theorem dX4_turn_31 : decode cX4_turn 31 = .ok (.lmul, 1) := by decide +kernel
theorem dX4_turn_32 : decode cX4_turn 32 = .ok (.lstore 7, 2) := by decide +kernel
theorem dX4_turn_34 : decode cX4_turn 34 = .ok (.aload_n 0, 1) := by decide +kernel
theorem dX4_turn_35 : decode cX4_turn 35 = .ok (.getfield 19, 3) := by decide +kernel
theorem dX4_turn_38 : decode cX4_turn 38 = .ok (.iload_n 2, 1) := by decide +kernel
theorem dX4_turn_39 : decode cX4_turn 39 = .ok (.laload, 1) := by decide +kernel
theorem dX4_turn_40 : decode cX4_turn 40 = .ok (.aload_n 1, 1) := by decide +kernel
theorem dX4_turn_41 : decode cX4_turn 41 = .ok (.getfield 82, 3) := by decide +kernel
theorem dX4_turn_44 : decode cX4_turn 44 = .ok (.iload 6, 2) := by decide +kernel
theorem dX4_turn_46 : decode cX4_turn 46 = .ok (.iaload, 1) := by decide +kernel
theorem dX4_turn_47 : decode cX4_turn 47 = .ok (.i2l, 1) := by decide +kernel
theorem dX4_turn_48 : decode cX4_turn 48 = .ok (.lmul, 1) := by decide +kernel
theorem dX4_turn_49 : decode cX4_turn 49 = .ok (.lstore 9, 2) := by decide +kernel
theorem dX4_turn_51 : decode cX4_turn 51 = .ok (.lload 7, 2) := by decide +kernel
theorem dX4_turn_53 : decode cX4_turn 53 = .ok (.lload 9, 2) := by decide +kernel
theorem dX4_turn_55 : decode cX4_turn 55 = .ok (.invokestatic 85, 3) := by decide +kernel
theorem dX4_turn_58 : decode cX4_turn 58 = .ok (.lstore 11, 2) := by decide +kernel
theorem dX4_turn_60 : decode cX4_turn 60 = .ok (.lload 11, 2) := by decide +kernel
theorem dX4_turn_62 : decode cX4_turn 62 = .ok (.lconst 1, 1) := by decide +kernel
theorem dX4_turn_63 : decode cX4_turn 63 = .ok (.lcmp, 1) := by decide +kernel
theorem dX4_turn_64 : decode cX4_turn 64 = .ok (.ifCond .le 17, 3) := by decide +kernel
theorem dX4_turn_67 : decode cX4_turn 67 = .ok (.lload 7, 2) := by decide +kernel
theorem dX4_turn_69 : decode cX4_turn 69 = .ok (.lload 11, 2) := by decide +kernel
theorem dX4_turn_71 : decode cX4_turn 71 = .ok (.ldiv, 1) := by decide +kernel
theorem dX4_turn_72 : decode cX4_turn 72 = .ok (.lstore 7, 2) := by decide +kernel
theorem dX4_turn_74 : decode cX4_turn 74 = .ok (.lload 9, 2) := by decide +kernel
theorem dX4_turn_76 : decode cX4_turn 76 = .ok (.lload 11, 2) := by decide +kernel
theorem dX4_turn_78 : decode cX4_turn 78 = .ok (.ldiv, 1) := by decide +kernel
theorem dX4_turn_79 : decode cX4_turn 79 = .ok (.lstore 9, 2) := by decide +kernel
theorem dX4_turn_81 : decode cX4_turn 81 = .ok (.aload_n 0, 1) := by decide +kernel
theorem dX4_turn_82 : decode cX4_turn 82 = .ok (.getfield 22, 3) := by decide +kernel
theorem dX4_turn_85 : decode cX4_turn 85 = .ok (.iload_n 3, 1) := by decide +kernel
theorem dX4_turn_86 : decode cX4_turn 86 = .ok (.baload, 1) := by decide +kernel
theorem dX4_turn_87 : decode cX4_turn 87 = .ok (.ifCond .ne 15, 3) := by decide +kernel
theorem dX4_turn_90 : decode cX4_turn 90 = .ok (.aload_n 0, 1) := by decide +kernel
theorem dX4_turn_91 : decode cX4_turn 91 = .ok (.iload_n 3, 1) := by decide +kernel
theorem dX4_turn_92 : decode cX4_turn 92 = .ok (.lload 7, 2) := by decide +kernel
theorem dX4_turn_94 : decode cX4_turn 94 = .ok (.lload 9, 2) := by decide +kernel
theorem dX4_turn_96 : decode cX4_turn 96 = .ok (.invokevirtual 53, 3) := by decide +kernel
theorem dX4_turn_99 : decode cX4_turn 99 = .ok (.goto 32, 3) := by decide +kernel
theorem dX4_turn_102 : decode cX4_turn 102 = .ok (.aload_n 0, 1) := by decide +kernel
theorem dX4_turn_103 : decode cX4_turn 103 = .ok (.getfield 15, 3) := by decide +kernel
theorem dX4_turn_106 : decode cX4_turn 106 = .ok (.iload_n 3, 1) := by decide +kernel
theorem dX4_turn_107 : decode cX4_turn 107 = .ok (.laload, 1) := by decide +kernel
theorem dX4_turn_108 : decode cX4_turn 108 = .ok (.lload 7, 2) := by decide +kernel
theorem dX4_turn_110 : decode cX4_turn 110 = .ok (.lcmp, 1) := by decide +kernel
theorem dX4_turn_111 : decode cX4_turn 111 = .ok (.ifCond .ne 15, 3) := by decide +kernel
theorem dX4_turn_114 : decode cX4_turn 114 = .ok (.aload_n 0, 1) := by decide +kernel
theorem dX4_turn_115 : decode cX4_turn 115 = .ok (.getfield 19, 3) := by decide +kernel
theorem dX4_turn_118 : decode cX4_turn 118 = .ok (.iload_n 3, 1) := by decide +kernel
theorem dX4_turn_119 : decode cX4_turn 119 = .ok (.laload, 1) := by decide +kernel
theorem dX4_turn_120 : decode cX4_turn 120 = .ok (.lload 9, 2) := by decide +kernel
theorem dX4_turn_122 : decode cX4_turn 122 = .ok (.lcmp, 1) := by decide +kernel
theorem dX4_turn_123 : decode cX4_turn 123 = .ok (.ifCond .eq 8, 3) := by decide +kernel
theorem dX4_turn_126 : decode cX4_turn 126 = .ok (.aload_n 0, 1) := by decide +kernel
theorem dX4_turn_127 : decode cX4_turn 127 = .ok (.iconst 1, 1) := by decide +kernel
theorem dX4_turn_128 : decode cX4_turn 128 = .ok (.putfield 33, 3) := by decide +kernel
theorem dX4_turn_131 : decode cX4_turn 131 = .ok (.return_, 1) := by decide +kernel
theorem dX4_levelsOf_0 : decode cX4_levelsOf 0 = .ok (.aload_n 0, 1) := by decide +kernel
theorem dX4_levelsOf_1 : decode cX4_levelsOf 1 = .ok (.getfield 9, 3) := by decide +kernel
theorem dX4_levelsOf_4 : decode cX4_levelsOf 4 = .ok (.iload_n 1, 1) := by decide +kernel
theorem dX4_levelsOf_5 : decode cX4_levelsOf 5 = .ok (.bipush 9, 2) := by decide +kernel
theorem dX4_levelsOf_7 : decode cX4_levelsOf 7 = .ok (.imul, 1) := by decide +kernel
theorem dX4_levelsOf_8 : decode cX4_levelsOf 8 = .ok (.iload_n 2, 1) := by decide +kernel
theorem dX4_levelsOf_9 : decode cX4_levelsOf 9 = .ok (.iadd, 1) := by decide +kernel
theorem dX4_levelsOf_10 : decode cX4_levelsOf 10 = .ok (.iaload, 1) := by decide +kernel
theorem dX4_levelsOf_11 : decode cX4_levelsOf 11 = .ok (.ireturn, 1) := by decide +kernel
theorem dX4_meshOnLevel_0 : decode cX4_meshOnLevel 0 = .ok (.aload_n 0, 1) := by decide +kernel
theorem dX4_meshOnLevel_1 : decode cX4_meshOnLevel 1 = .ok (.iload_n 1, 1) := by decide +kernel
theorem dX4_meshOnLevel_2 : decode cX4_meshOnLevel 2 = .ok (.iload_n 2, 1) := by decide +kernel
theorem dX4_meshOnLevel_3 : decode cX4_meshOnLevel 3 = .ok (.invokevirtual 89, 3) := by decide +kernel
theorem dX4_meshOnLevel_6 : decode cX4_meshOnLevel 6 = .ok (.iload_n 3, 1) := by decide +kernel
theorem dX4_meshOnLevel_7 : decode cX4_meshOnLevel 7 = .ok (.iconst 1, 1) := by decide +kernel
theorem dX4_meshOnLevel_8 : decode cX4_meshOnLevel 8 = .ok (.iadd, 1) := by decide +kernel
theorem dX4_meshOnLevel_9 : decode cX4_meshOnLevel 9 = .ok (.iand, 1) := by decide +kernel
theorem dX4_meshOnLevel_10 : decode cX4_meshOnLevel 10 = .ok (.ifCond .eq 7, 3) := by decide +kernel
theorem dX4_meshOnLevel_13 : decode cX4_meshOnLevel 13 = .ok (.iconst 1, 1) := by decide +kernel
theorem dX4_meshOnLevel_14 : decode cX4_meshOnLevel 14 = .ok (.goto 4, 3) := by decide +kernel
theorem dX4_meshOnLevel_17 : decode cX4_meshOnLevel 17 = .ok (.iconst 0, 1) := by decide +kernel
theorem dX4_meshOnLevel_18 : decode cX4_meshOnLevel 18 = .ok (.ireturn, 1) := by decide +kernel
theorem dX4_neighbours_0 : decode cX4_neighbours 0 = .ok (.iconst 0, 1) := by decide +kernel
theorem dX4_neighbours_1 : decode cX4_neighbours 1 = .ok (.istore_n 3, 1) := by decide +kernel
theorem dX4_neighbours_2 : decode cX4_neighbours 2 = .ok (.iconst 0, 1) := by decide +kernel
theorem dX4_neighbours_3 : decode cX4_neighbours 3 = .ok (.istore 4, 2) := by decide +kernel
theorem dX4_neighbours_5 : decode cX4_neighbours 5 = .ok (.iload 4, 2) := by decide +kernel
theorem dX4_neighbours_7 : decode cX4_neighbours 7 = .ok (.aload_n 1, 1) := by decide +kernel
theorem dX4_neighbours_8 : decode cX4_neighbours 8 = .ok (.getfield 61, 3) := by decide +kernel
theorem dX4_neighbours_11 : decode cX4_neighbours 11 = .ok (.if_icmp .ge 22, 3) := by decide +kernel
theorem dX4_neighbours_14 : decode cX4_neighbours 14 = .ok (.aload_n 0, 1) := by decide +kernel
theorem dX4_neighbours_15 : decode cX4_neighbours 15 = .ok (.iload_n 2, 1) := by decide +kernel
theorem dX4_neighbours_16 : decode cX4_neighbours 16 = .ok (.iload 4, 2) := by decide +kernel
theorem dX4_neighbours_18 : decode cX4_neighbours 18 = .ok (.invokevirtual 89, 3) := by decide +kernel
theorem dX4_neighbours_21 : decode cX4_neighbours 21 = .ok (.ifCond .eq 6, 3) := by decide +kernel
theorem dX4_neighbours_24 : decode cX4_neighbours 24 = .ok (.iinc 3 1, 3) := by decide +kernel
theorem dX4_neighbours_27 : decode cX4_neighbours 27 = .ok (.iinc 4 1, 3) := by decide +kernel
theorem dX4_neighbours_30 : decode cX4_neighbours 30 = .ok (.goto (-25), 3) := by decide +kernel
theorem dX4_neighbours_33 : decode cX4_neighbours 33 = .ok (.iload_n 3, 1) := by decide +kernel
theorem dX4_neighbours_34 : decode cX4_neighbours 34 = .ok (.ireturn, 1) := by decide +kernel
theorem dX4_meshingPairs_0 : decode cX4_meshingPairs 0 = .ok (.iconst 0, 1) := by decide +kernel
theorem dX4_meshingPairs_1 : decode cX4_meshingPairs 1 = .ok (.istore_n 2, 1) := by decide +kernel
theorem dX4_meshingPairs_2 : decode cX4_meshingPairs 2 = .ok (.iconst 0, 1) := by decide +kernel
theorem dX4_meshingPairs_3 : decode cX4_meshingPairs 3 = .ok (.istore_n 3, 1) := by decide +kernel
theorem dX4_meshingPairs_4 : decode cX4_meshingPairs 4 = .ok (.iload_n 3, 1) := by decide +kernel
theorem dX4_meshingPairs_5 : decode cX4_meshingPairs 5 = .ok (.aload_n 1, 1) := by decide +kernel
theorem dX4_meshingPairs_6 : decode cX4_meshingPairs 6 = .ok (.getfield 61, 3) := by decide +kernel
theorem dX4_meshingPairs_9 : decode cX4_meshingPairs 9 = .ok (.if_icmp .ge 18, 3) := by decide +kernel
theorem dX4_meshingPairs_12 : decode cX4_meshingPairs 12 = .ok (.iload_n 2, 1) := by decide +kernel
theorem dX4_meshingPairs_13 : decode cX4_meshingPairs 13 = .ok (.aload_n 0, 1) := by decide +kernel
theorem dX4_meshingPairs_14 : decode cX4_meshingPairs 14 = .ok (.aload_n 1, 1) := by decide +kernel
theorem dX4_meshingPairs_15 : decode cX4_meshingPairs 15 = .ok (.iload_n 3, 1) := by decide +kernel
theorem dX4_meshingPairs_16 : decode cX4_meshingPairs 16 = .ok (.invokevirtual 92, 3) := by decide +kernel
theorem dX4_meshingPairs_19 : decode cX4_meshingPairs 19 = .ok (.iadd, 1) := by decide +kernel
theorem dX4_meshingPairs_20 : decode cX4_meshingPairs 20 = .ok (.istore_n 2, 1) := by decide +kernel
theorem dX4_meshingPairs_21 : decode cX4_meshingPairs 21 = .ok (.iinc 3 1, 3) := by decide +kernel
theorem dX4_meshingPairs_24 : decode cX4_meshingPairs 24 = .ok (.goto (-20), 3) := by decide +kernel
theorem dX4_meshingPairs_27 : decode cX4_meshingPairs 27 = .ok (.iload_n 2, 1) := by decide +kernel
theorem dX4_meshingPairs_28 : decode cX4_meshingPairs 28 = .ok (.iconst 2, 1) := by decide +kernel
theorem dX4_meshingPairs_29 : decode cX4_meshingPairs 29 = .ok (.idiv, 1) := by decide +kernel
theorem dX4_meshingPairs_30 : decode cX4_meshingPairs 30 = .ok (.ireturn, 1) := by decide +kernel
theorem dX4_direction_0 : decode cX4_direction 0 = .ok (.aload_n 0, 1) := by decide +kernel
theorem dX4_direction_1 : decode cX4_direction 1 = .ok (.getfield 15, 3) := by decide +kernel
theorem dX4_direction_4 : decode cX4_direction 4 = .ok (.iload_n 1, 1) := by decide +kernel
theorem dX4_direction_5 : decode cX4_direction 5 = .ok (.laload, 1) := by decide +kernel
theorem dX4_direction_6 : decode cX4_direction 6 = .ok (.lconst 0, 1) := by decide +kernel
theorem dX4_direction_7 : decode cX4_direction 7 = .ok (.lcmp, 1) := by decide +kernel
theorem dX4_direction_8 : decode cX4_direction 8 = .ok (.ifCond .ne 5, 3) := by decide +kernel
theorem dX4_direction_11 : decode cX4_direction 11 = .ok (.iconst 0, 1) := by decide +kernel
theorem dX4_direction_12 : decode cX4_direction 12 = .ok (.ireturn, 1) := by decide +kernel
theorem dX4_direction_13 : decode cX4_direction 13 = .ok (.aload_n 0, 1) := by decide +kernel
theorem dX4_direction_14 : decode cX4_direction 14 = .ok (.getfield 15, 3) := by decide +kernel
theorem dX4_direction_17 : decode cX4_direction 17 = .ok (.iload_n 1, 1) := by decide +kernel
theorem dX4_direction_18 : decode cX4_direction 18 = .ok (.laload, 1) := by decide +kernel
theorem dX4_direction_19 : decode cX4_direction 19 = .ok (.lconst 0, 1) := by decide +kernel
theorem dX4_direction_20 : decode cX4_direction 20 = .ok (.lcmp, 1) := by decide +kernel
theorem dX4_direction_21 : decode cX4_direction 21 = .ok (.ifCond .le 7, 3) := by decide +kernel
theorem dX4_direction_24 : decode cX4_direction 24 = .ok (.iconst 1, 1) := by decide +kernel
theorem dX4_direction_25 : decode cX4_direction 25 = .ok (.goto 4, 3) := by decide +kernel
theorem dX4_direction_28 : decode cX4_direction 28 = .ok (.iconst 2, 1) := by decide +kernel
theorem dX4_direction_29 : decode cX4_direction 29 = .ok (.ireturn, 1) := by decide +kernel
theorem dX4_turningPegs_0 : decode cX4_turningPegs 0 = .ok (.iconst 0, 1) := by decide +kernel
theorem dX4_turningPegs_1 : decode cX4_turningPegs 1 = .ok (.istore_n 2, 1) := by decide +kernel
theorem dX4_turningPegs_2 : decode cX4_turningPegs 2 = .ok (.iconst 0, 1) := by decide +kernel
theorem dX4_turningPegs_3 : decode cX4_turningPegs 3 = .ok (.istore_n 3, 1) := by decide +kernel
theorem dX4_turningPegs_4 : decode cX4_turningPegs 4 = .ok (.iload_n 3, 1) := by decide +kernel
theorem dX4_turningPegs_5 : decode cX4_turningPegs 5 = .ok (.aload_n 1, 1) := by decide +kernel
theorem dX4_turningPegs_6 : decode cX4_turningPegs 6 = .ok (.getfield 61, 3) := by decide +kernel
theorem dX4_turningPegs_9 : decode cX4_turningPegs 9 = .ok (.if_icmp .ge 20, 3) := by decide +kernel
theorem dX4_turningPegs_12 : decode cX4_turningPegs 12 = .ok (.aload_n 0, 1) := by decide +kernel
theorem dX4_turningPegs_13 : decode cX4_turningPegs 13 = .ok (.iload_n 3, 1) := by decide +kernel
theorem dX4_turningPegs_14 : decode cX4_turningPegs 14 = .ok (.invokevirtual 96, 3) := by decide +kernel
theorem dX4_turningPegs_17 : decode cX4_turningPegs 17 = .ok (.ifCond .eq 6, 3) := by decide +kernel
theorem dX4_turningPegs_20 : decode cX4_turningPegs 20 = .ok (.iinc 2 1, 3) := by decide +kernel
theorem dX4_turningPegs_23 : decode cX4_turningPegs 23 = .ok (.iinc 3 1, 3) := by decide +kernel
theorem dX4_turningPegs_26 : decode cX4_turningPegs 26 = .ok (.goto (-22), 3) := by decide +kernel
theorem dX4_turningPegs_29 : decode cX4_turningPegs 29 = .ok (.iload_n 2, 1) := by decide +kernel
theorem dX4_turningPegs_30 : decode cX4_turningPegs 30 = .ok (.ireturn, 1) := by decide +kernel
theorem dX4_reachesGoal_0 : decode cX4_reachesGoal 0 = .ok (.aload_n 1, 1) := by decide +kernel
theorem dX4_reachesGoal_1 : decode cX4_reachesGoal 1 = .ok (.getfield 100, 3) := by decide +kernel
theorem dX4_reachesGoal_4 : decode cX4_reachesGoal 4 = .ok (.istore_n 2, 1) := by decide +kernel
theorem dX4_reachesGoal_5 : decode cX4_reachesGoal 5 = .ok (.aload_n 1, 1) := by decide +kernel
theorem dX4_reachesGoal_6 : decode cX4_reachesGoal 6 = .ok (.iload_n 2, 1) := by decide +kernel
theorem dX4_reachesGoal_7 : decode cX4_reachesGoal 7 = .ok (.invokevirtual 49, 3) := by decide +kernel
theorem dX4_reachesGoal_10 : decode cX4_reachesGoal 10 = .ok (.ifCond .eq 37, 3) := by decide +kernel
theorem dX4_reachesGoal_13 : decode cX4_reachesGoal 13 = .ok (.aload_n 0, 1) := by decide +kernel
theorem dX4_reachesGoal_14 : decode cX4_reachesGoal 14 = .ok (.getfield 15, 3) := by decide +kernel
theorem dX4_reachesGoal_17 : decode cX4_reachesGoal 17 = .ok (.iload_n 2, 1) := by decide +kernel
theorem dX4_reachesGoal_18 : decode cX4_reachesGoal 18 = .ok (.laload, 1) := by decide +kernel
theorem dX4_reachesGoal_19 : decode cX4_reachesGoal 19 = .ok (.aload_n 1, 1) := by decide +kernel
theorem dX4_reachesGoal_20 : decode cX4_reachesGoal 20 = .ok (.getfield 103, 3) := by decide +kernel
theorem dX4_reachesGoal_23 : decode cX4_reachesGoal 23 = .ok (.i2l, 1) := by decide +kernel
theorem dX4_reachesGoal_24 : decode cX4_reachesGoal 24 = .ok (.lcmp, 1) := by decide +kernel
theorem dX4_reachesGoal_25 : decode cX4_reachesGoal 25 = .ok (.ifCond .ne 22, 3) := by decide +kernel
theorem dX4_reachesGoal_28 : decode cX4_reachesGoal 28 = .ok (.aload_n 0, 1) := by decide +kernel
theorem dX4_reachesGoal_29 : decode cX4_reachesGoal 29 = .ok (.getfield 19, 3) := by decide +kernel
theorem dX4_reachesGoal_32 : decode cX4_reachesGoal 32 = .ok (.iload_n 2, 1) := by decide +kernel
theorem dX4_reachesGoal_33 : decode cX4_reachesGoal 33 = .ok (.laload, 1) := by decide +kernel
theorem dX4_reachesGoal_34 : decode cX4_reachesGoal 34 = .ok (.aload_n 1, 1) := by decide +kernel
theorem dX4_reachesGoal_35 : decode cX4_reachesGoal 35 = .ok (.getfield 106, 3) := by decide +kernel
theorem dX4_reachesGoal_38 : decode cX4_reachesGoal 38 = .ok (.i2l, 1) := by decide +kernel
theorem dX4_reachesGoal_39 : decode cX4_reachesGoal 39 = .ok (.lcmp, 1) := by decide +kernel
theorem dX4_reachesGoal_40 : decode cX4_reachesGoal 40 = .ok (.ifCond .ne 7, 3) := by decide +kernel
theorem dX4_reachesGoal_43 : decode cX4_reachesGoal 43 = .ok (.iconst 1, 1) := by decide +kernel
theorem dX4_reachesGoal_44 : decode cX4_reachesGoal 44 = .ok (.goto 4, 3) := by decide +kernel
theorem dX4_reachesGoal_47 : decode cX4_reachesGoal 47 = .ok (.iconst 0, 1) := by decide +kernel
theorem dX4_reachesGoal_48 : decode cX4_reachesGoal 48 = .ok (.ireturn, 1) := by decide +kernel
theorem dX4_turnsOfMarks_0 : decode cX4_turnsOfMarks 0 = .ok (.aload_n 0, 1) := by decide +kernel
theorem dX4_turnsOfMarks_1 : decode cX4_turnsOfMarks 1 = .ok (.aload_n 1, 1) := by decide +kernel
theorem dX4_turnsOfMarks_2 : decode cX4_turnsOfMarks 2 = .ok (.invokevirtual 109, 3) := by decide +kernel
theorem dX4_turnsOfMarks_5 : decode cX4_turnsOfMarks 5 = .ok (.ifCond .ne 5, 3) := by decide +kernel
theorem dX4_turnsOfMarks_8 : decode cX4_turnsOfMarks 8 = .ok (.lconst 0, 1) := by decide +kernel
theorem dX4_turnsOfMarks_9 : decode cX4_turnsOfMarks 9 = .ok (.lreturn, 1) := by decide +kernel
theorem dX4_turnsOfMarks_10 : decode cX4_turnsOfMarks 10 = .ok (.lconst 1, 1) := by decide +kernel
theorem dX4_turnsOfMarks_11 : decode cX4_turnsOfMarks 11 = .ok (.lstore_n 2, 1) := by decide +kernel
theorem dX4_turnsOfMarks_12 : decode cX4_turnsOfMarks 12 = .ok (.iconst 0, 1) := by decide +kernel
theorem dX4_turnsOfMarks_13 : decode cX4_turnsOfMarks 13 = .ok (.istore 4, 2) := by decide +kernel
theorem dX4_turnsOfMarks_15 : decode cX4_turnsOfMarks 15 = .ok (.iload 4, 2) := by decide +kernel
theorem dX4_turnsOfMarks_17 : decode cX4_turnsOfMarks 17 = .ok (.aload_n 1, 1) := by decide +kernel
theorem dX4_turnsOfMarks_18 : decode cX4_turnsOfMarks 18 = .ok (.getfield 61, 3) := by decide +kernel
theorem dX4_turnsOfMarks_21 : decode cX4_turnsOfMarks 21 = .ok (.if_icmp .ge 42, 3) := by decide +kernel
theorem dX4_turnsOfMarks_24 : decode cX4_turnsOfMarks 24 = .ok (.lload_n 2, 1) := by decide +kernel
theorem dX4_turnsOfMarks_25 : decode cX4_turnsOfMarks 25 = .ok (.aload_n 0, 1) := by decide +kernel
theorem dX4_turnsOfMarks_26 : decode cX4_turnsOfMarks 26 = .ok (.getfield 19, 3) := by decide +kernel
theorem dX4_turnsOfMarks_29 : decode cX4_turnsOfMarks 29 = .ok (.iload 4, 2) := by decide +kernel
theorem dX4_turnsOfMarks_31 : decode cX4_turnsOfMarks 31 = .ok (.laload, 1) := by decide +kernel
theorem dX4_turnsOfMarks_32 : decode cX4_turnsOfMarks 32 = .ok (.invokestatic 85, 3) := by decide +kernel
theorem dX4_turnsOfMarks_35 : decode cX4_turnsOfMarks 35 = .ok (.lstore 5, 2) := by decide +kernel
theorem dX4_turnsOfMarks_37 : decode cX4_turnsOfMarks 37 = .ok (.lload 5, 2) := by decide +kernel
theorem dX4_turnsOfMarks_39 : decode cX4_turnsOfMarks 39 = .ok (.lconst 0, 1) := by decide +kernel
theorem dX4_turnsOfMarks_40 : decode cX4_turnsOfMarks 40 = .ok (.lcmp, 1) := by decide +kernel
theorem dX4_turnsOfMarks_41 : decode cX4_turnsOfMarks 41 = .ok (.ifCond .le 16, 3) := by decide +kernel
theorem dX4_turnsOfMarks_44 : decode cX4_turnsOfMarks 44 = .ok (.lload_n 2, 1) := by decide +kernel
theorem dX4_turnsOfMarks_45 : decode cX4_turnsOfMarks 45 = .ok (.lload 5, 2) := by decide +kernel
theorem dX4_turnsOfMarks_47 : decode cX4_turnsOfMarks 47 = .ok (.ldiv, 1) := by decide +kernel
theorem dX4_turnsOfMarks_48 : decode cX4_turnsOfMarks 48 = .ok (.aload_n 0, 1) := by decide +kernel
theorem dX4_turnsOfMarks_49 : decode cX4_turnsOfMarks 49 = .ok (.getfield 19, 3) := by decide +kernel
theorem dX4_turnsOfMarks_52 : decode cX4_turnsOfMarks 52 = .ok (.iload 4, 2) := by decide +kernel
theorem dX4_turnsOfMarks_54 : decode cX4_turnsOfMarks 54 = .ok (.laload, 1) := by decide +kernel
theorem dX4_turnsOfMarks_55 : decode cX4_turnsOfMarks 55 = .ok (.lmul, 1) := by decide +kernel
theorem dX4_turnsOfMarks_56 : decode cX4_turnsOfMarks 56 = .ok (.lstore_n 2, 1) := by decide +kernel
theorem dX4_turnsOfMarks_57 : decode cX4_turnsOfMarks 57 = .ok (.iinc 4 1, 3) := by decide +kernel
theorem dX4_turnsOfMarks_60 : decode cX4_turnsOfMarks 60 = .ok (.goto (-45), 3) := by decide +kernel
theorem dX4_turnsOfMarks_63 : decode cX4_turnsOfMarks 63 = .ok (.lload_n 2, 1) := by decide +kernel
theorem dX4_turnsOfMarks_64 : decode cX4_turnsOfMarks 64 = .ok (.lreturn, 1) := by decide +kernel
theorem dX5_init_0 : decode cX5_init 0 = .ok (.aload_n 0, 1) := by decide +kernel
theorem dX5_init_1 : decode cX5_init 1 = .ok (.invokespecial 3, 3) := by decide +kernel
theorem dX5_init_4 : decode cX5_init 4 = .ok (.aload_n 0, 1) := by decide +kernel
theorem dX5_init_5 : decode cX5_init 5 = .ok (.new 9, 3) := by decide +kernel
theorem dX5_init_8 : decode cX5_init 8 = .ok (.dup, 1) := by decide +kernel
theorem dX5_init_9 : decode cX5_init 9 = .ok (.invokespecial 11, 3) := by decide +kernel
theorem dX5_init_12 : decode cX5_init 12 = .ok (.putfield 12, 3) := by decide +kernel
theorem dX5_init_15 : decode cX5_init 15 = .ok (.aload_n 0, 1) := by decide +kernel
theorem dX5_init_16 : decode cX5_init 16 = .ok (.new 16, 3) := by decide +kernel
theorem dX5_init_19 : decode cX5_init 19 = .ok (.dup, 1) := by decide +kernel
theorem dX5_init_20 : decode cX5_init 20 = .ok (.invokespecial 18, 3) := by decide +kernel
theorem dX5_init_23 : decode cX5_init 23 = .ok (.putfield 19, 3) := by decide +kernel
theorem dX5_init_26 : decode cX5_init 26 = .ok (.aload_n 0, 1) := by decide +kernel
theorem dX5_init_27 : decode cX5_init 27 = .ok (.new 9, 3) := by decide +kernel
theorem dX5_init_30 : decode cX5_init 30 = .ok (.dup, 1) := by decide +kernel
theorem dX5_init_31 : decode cX5_init 31 = .ok (.invokespecial 11, 3) := by decide +kernel
theorem dX5_init_34 : decode cX5_init 34 = .ok (.putfield 23, 3) := by decide +kernel
theorem dX5_init_37 : decode cX5_init 37 = .ok (.aload_n 0, 1) := by decide +kernel
theorem dX5_init_38 : decode cX5_init 38 = .ok (.new 16, 3) := by decide +kernel
theorem dX5_init_41 : decode cX5_init 41 = .ok (.dup, 1) := by decide +kernel
theorem dX5_init_42 : decode cX5_init 42 = .ok (.invokespecial 18, 3) := by decide +kernel
theorem dX5_init_45 : decode cX5_init 45 = .ok (.putfield 26, 3) := by decide +kernel
theorem dX5_init_48 : decode cX5_init 48 = .ok (.aload_n 0, 1) := by decide +kernel
theorem dX5_init_49 : decode cX5_init 49 = .ok (.new 29, 3) := by decide +kernel
theorem dX5_init_52 : decode cX5_init 52 = .ok (.dup, 1) := by decide +kernel
theorem dX5_init_53 : decode cX5_init 53 = .ok (.invokespecial 31, 3) := by decide +kernel
theorem dX5_init_56 : decode cX5_init 56 = .ok (.putfield 32, 3) := by decide +kernel
theorem dX5_init_59 : decode cX5_init 59 = .ok (.aload_n 0, 1) := by decide +kernel
theorem dX5_init_60 : decode cX5_init 60 = .ok (.new 36, 3) := by decide +kernel
theorem dX5_init_63 : decode cX5_init 63 = .ok (.dup, 1) := by decide +kernel
theorem dX5_init_64 : decode cX5_init 64 = .ok (.invokespecial 38, 3) := by decide +kernel
theorem dX5_init_67 : decode cX5_init 67 = .ok (.putfield 39, 3) := by decide +kernel
theorem dX5_init_70 : decode cX5_init 70 = .ok (.aload_n 0, 1) := by decide +kernel
theorem dX5_init_71 : decode cX5_init 71 = .ok (.new 43, 3) := by decide +kernel
theorem dX5_init_74 : decode cX5_init 74 = .ok (.dup, 1) := by decide +kernel
theorem dX5_init_75 : decode cX5_init 75 = .ok (.invokespecial 45, 3) := by decide +kernel
theorem dX5_init_78 : decode cX5_init 78 = .ok (.putfield 46, 3) := by decide +kernel
theorem dX5_init_81 : decode cX5_init 81 = .ok (.return_, 1) := by decide +kernel
theorem dX5_addPeg_0 : decode cX5_addPeg 0 = .ok (.iload_n 1, 1) := by decide +kernel
theorem dX5_addPeg_1 : decode cX5_addPeg 1 = .ok (.iload_n 2, 1) := by decide +kernel
theorem dX5_addPeg_2 : decode cX5_addPeg 2 = .ok (.invokestatic 50, 3) := by decide +kernel
theorem dX5_addPeg_5 : decode cX5_addPeg 5 = .ok (.aload_n 0, 1) := by decide +kernel
theorem dX5_addPeg_6 : decode cX5_addPeg 6 = .ok (.invokevirtual 54, 3) := by decide +kernel
theorem dX5_addPeg_9 : decode cX5_addPeg 9 = .ok (.aload_n 0, 1) := by decide +kernel
theorem dX5_addPeg_10 : decode cX5_addPeg 10 = .ok (.getfield 23, 3) := by decide +kernel
theorem dX5_addPeg_13 : decode cX5_addPeg 13 = .ok (.iload_n 1, 1) := by decide +kernel
theorem dX5_addPeg_14 : decode cX5_addPeg 14 = .ok (.iload_n 2, 1) := by decide +kernel
theorem dX5_addPeg_15 : decode cX5_addPeg 15 = .ok (.invokevirtual 57, 3) := by decide +kernel
theorem dX5_addPeg_18 : decode cX5_addPeg 18 = .ok (.ifCond .ne 13, 3) := by decide +kernel
theorem dX5_addPeg_21 : decode cX5_addPeg 21 = .ok (.new 61, 3) := by decide +kernel
theorem dX5_addPeg_24 : decode cX5_addPeg 24 = .ok (.dup, 1) := by decide +kernel
theorem dX5_addPeg_25 : decode cX5_addPeg 25 = .ok (.ldc 63, 2) := by decide +kernel
theorem dX5_addPeg_27 : decode cX5_addPeg 27 = .ok (.invokespecial 65, 3) := by decide +kernel
theorem dX5_addPeg_30 : decode cX5_addPeg 30 = .ok (.athrow, 1) := by decide +kernel
theorem dX5_addPeg_31 : decode cX5_addPeg 31 = .ok (.aload_n 0, 1) := by decide +kernel
theorem dX5_addPeg_32 : decode cX5_addPeg 32 = .ok (.invokevirtual 68, 3) := by decide +kernel
theorem dX5_addPeg_35 : decode cX5_addPeg 35 = .ok (.aload_n 0, 1) := by decide +kernel
theorem dX5_addPeg_36 : decode cX5_addPeg 36 = .ok (.getfield 12, 3) := by decide +kernel
theorem dX5_addPeg_39 : decode cX5_addPeg 39 = .ok (.getfield 71, 3) := by decide +kernel
theorem dX5_addPeg_42 : decode cX5_addPeg 42 = .ok (.iconst 1, 1) := by decide +kernel
theorem dX5_addPeg_43 : decode cX5_addPeg 43 = .ok (.isub, 1) := by decide +kernel
theorem dX5_addPeg_44 : decode cX5_addPeg 44 = .ok (.ireturn, 1) := by decide +kernel
theorem dX5_putGear_0 : decode cX5_putGear 0 = .ok (.aload_n 0, 1) := by decide +kernel
theorem dX5_putGear_1 : decode cX5_putGear 1 = .ok (.iload_n 1, 1) := by decide +kernel
theorem dX5_putGear_2 : decode cX5_putGear 2 = .ok (.invokevirtual 75, 3) := by decide +kernel
theorem dX5_putGear_5 : decode cX5_putGear 5 = .ok (.iload_n 2, 1) := by decide +kernel
theorem dX5_putGear_6 : decode cX5_putGear 6 = .ok (.invokestatic 79, 3) := by decide +kernel
theorem dX5_putGear_9 : decode cX5_putGear 9 = .ok (.ifCond .eq 14, 3) := by decide +kernel
theorem dX5_putGear_12 : decode cX5_putGear 12 = .ok (.iload_n 3, 1) := by decide +kernel
theorem dX5_putGear_13 : decode cX5_putGear 13 = .ok (.invokestatic 83, 3) := by decide +kernel
theorem dX5_putGear_16 : decode cX5_putGear 16 = .ok (.ifCond .eq 7, 3) := by decide +kernel
theorem dX5_putGear_19 : decode cX5_putGear 19 = .ok (.iconst 1, 1) := by decide +kernel
theorem dX5_putGear_20 : decode cX5_putGear 20 = .ok (.goto 4, 3) := by decide +kernel
theorem dX5_putGear_23 : decode cX5_putGear 23 = .ok (.iconst 0, 1) := by decide +kernel
theorem dX5_putGear_24 : decode cX5_putGear 24 = .ok (.invokestatic 86, 3) := by decide +kernel
theorem dX5_putGear_27 : decode cX5_putGear 27 = .ok (.aload_n 0, 1) := by decide +kernel
theorem dX5_putGear_28 : decode cX5_putGear 28 = .ok (.iload_n 1, 1) := by decide +kernel
theorem dX5_putGear_29 : decode cX5_putGear 29 = .ok (.iload_n 2, 1) := by decide +kernel
theorem dX5_putGear_30 : decode cX5_putGear 30 = .ok (.iload_n 3, 1) := by decide +kernel
theorem dX5_putGear_31 : decode cX5_putGear 31 = .ok (.invokestatic 90, 3) := by decide +kernel
theorem dX5_putGear_34 : decode cX5_putGear 34 = .ok (.iload_n 3, 1) := by decide +kernel
theorem dX5_putGear_35 : decode cX5_putGear 35 = .ok (.invokevirtual 94, 3) := by decide +kernel
theorem dX5_putGear_38 : decode cX5_putGear 38 = .ok (.ireturn, 1) := by decide +kernel
theorem dX5_putRing_0 : decode cX5_putRing 0 = .ok (.aload_n 0, 1) := by decide +kernel
theorem dX5_putRing_1 : decode cX5_putRing 1 = .ok (.iload_n 1, 1) := by decide +kernel
theorem dX5_putRing_2 : decode cX5_putRing 2 = .ok (.invokevirtual 75, 3) := by decide +kernel
theorem dX5_putRing_5 : decode cX5_putRing 5 = .ok (.iload_n 2, 1) := by decide +kernel
theorem dX5_putRing_6 : decode cX5_putRing 6 = .ok (.invokestatic 79, 3) := by decide +kernel
theorem dX5_putRing_9 : decode cX5_putRing 9 = .ok (.ifCond .eq 19, 3) := by decide +kernel
theorem dX5_putRing_12 : decode cX5_putRing 12 = .ok (.iload_n 3, 1) := by decide +kernel
theorem dX5_putRing_13 : decode cX5_putRing 13 = .ok (.bipush 6, 2) := by decide +kernel
theorem dX5_putRing_15 : decode cX5_putRing 15 = .ok (.if_icmp .lt 13, 3) := by decide +kernel
theorem dX5_putRing_18 : decode cX5_putRing 18 = .ok (.iload_n 3, 1) := by decide +kernel
theorem dX5_putRing_19 : decode cX5_putRing 19 = .ok (.bipush 40, 2) := by decide +kernel
theorem dX5_putRing_21 : decode cX5_putRing 21 = .ok (.if_icmp .gt 7, 3) := by decide +kernel
theorem dX5_putRing_24 : decode cX5_putRing 24 = .ok (.iconst 1, 1) := by decide +kernel
theorem dX5_putRing_25 : decode cX5_putRing 25 = .ok (.goto 4, 3) := by decide +kernel
theorem dX5_putRing_28 : decode cX5_putRing 28 = .ok (.iconst 0, 1) := by decide +kernel
theorem dX5_putRing_29 : decode cX5_putRing 29 = .ok (.invokestatic 86, 3) := by decide +kernel
theorem dX5_putRing_32 : decode cX5_putRing 32 = .ok (.aload_n 0, 1) := by decide +kernel
theorem dX5_putRing_33 : decode cX5_putRing 33 = .ok (.iload_n 1, 1) := by decide +kernel
theorem dX5_putRing_34 : decode cX5_putRing 34 = .ok (.iload_n 2, 1) := by decide +kernel
theorem dX5_putRing_35 : decode cX5_putRing 35 = .ok (.iconst 2, 1) := by decide +kernel
theorem dX5_putRing_36 : decode cX5_putRing 36 = .ok (.iload_n 3, 1) := by decide +kernel
theorem dX5_putRing_37 : decode cX5_putRing 37 = .ok (.invokevirtual 94, 3) := by decide +kernel
theorem dX5_putRing_40 : decode cX5_putRing 40 = .ok (.ireturn, 1) := by decide +kernel
theorem dX5_move_0 : decode cX5_move 0 = .ok (.aload_n 0, 1) := by decide +kernel
theorem dX5_move_1 : decode cX5_move 1 = .ok (.iload_n 1, 1) := by decide +kernel
theorem dX5_move_2 : decode cX5_move 2 = .ok (.invokevirtual 75, 3) := by decide +kernel
theorem dX5_move_5 : decode cX5_move 5 = .ok (.iload_n 2, 1) := by decide +kernel
theorem dX5_move_6 : decode cX5_move 6 = .ok (.iload_n 3, 1) := by decide +kernel
theorem dX5_move_7 : decode cX5_move 7 = .ok (.invokestatic 50, 3) := by decide +kernel
theorem dX5_move_10 : decode cX5_move 10 = .ok (.aload_n 0, 1) := by decide +kernel
theorem dX5_move_11 : decode cX5_move 11 = .ok (.invokevirtual 54, 3) := by decide +kernel
theorem dX5_move_14 : decode cX5_move 14 = .ok (.aload_n 0, 1) := by decide +kernel
theorem dX5_move_15 : decode cX5_move 15 = .ok (.getfield 23, 3) := by decide +kernel
theorem dX5_move_18 : decode cX5_move 18 = .ok (.iload_n 1, 1) := by decide +kernel
theorem dX5_move_19 : decode cX5_move 19 = .ok (.iload_n 2, 1) := by decide +kernel
theorem dX5_move_20 : decode cX5_move 20 = .ok (.iload_n 3, 1) := by decide +kernel
theorem dX5_move_21 : decode cX5_move 21 = .ok (.invokevirtual 98, 3) := by decide +kernel
theorem dX5_move_24 : decode cX5_move 24 = .ok (.ifCond .ne 13, 3) := by decide +kernel
theorem dX5_move_27 : decode cX5_move 27 = .ok (.new 61, 3) := by decide +kernel
theorem dX5_move_30 : decode cX5_move 30 = .ok (.dup, 1) := by decide +kernel
theorem dX5_move_31 : decode cX5_move 31 = .ok (.ldc 102, 2) := by decide +kernel
theorem dX5_move_33 : decode cX5_move 33 = .ok (.invokespecial 65, 3) := by decide +kernel
theorem dX5_move_36 : decode cX5_move 36 = .ok (.athrow, 1) := by decide +kernel
theorem dX5_move_37 : decode cX5_move 37 = .ok (.aload_n 0, 1) := by decide +kernel
theorem dX5_move_38 : decode cX5_move 38 = .ok (.invokevirtual 68, 3) := by decide +kernel
theorem dX5_move_41 : decode cX5_move 41 = .ok (.aload_n 0, 1) := by decide +kernel
theorem dX5_move_42 : decode cX5_move 42 = .ok (.getfield 19, 3) := by decide +kernel
theorem dX5_move_45 : decode cX5_move 45 = .ok (.aload_n 0, 1) := by decide +kernel
theorem dX5_move_46 : decode cX5_move 46 = .ok (.getfield 12, 3) := by decide +kernel
theorem dX5_move_49 : decode cX5_move 49 = .ok (.iload_n 1, 1) := by decide +kernel
theorem dX5_move_50 : decode cX5_move 50 = .ok (.invokevirtual 104, 3) := by decide +kernel
theorem dX5_move_53 : decode cX5_move 53 = .ok (.ireturn, 1) := by decide +kernel
theorem dX5_flip_0 : decode cX5_flip 0 = .ok (.aload_n 0, 1) := by decide +kernel
theorem dX5_flip_1 : decode cX5_flip 1 = .ok (.iload_n 1, 1) := by decide +kernel
theorem dX5_flip_2 : decode cX5_flip 2 = .ok (.invokevirtual 75, 3) := by decide +kernel
theorem dX5_flip_5 : decode cX5_flip 5 = .ok (.aload_n 0, 1) := by decide +kernel
theorem dX5_flip_6 : decode cX5_flip 6 = .ok (.invokevirtual 54, 3) := by decide +kernel
theorem dX5_flip_9 : decode cX5_flip 9 = .ok (.aload_n 0, 1) := by decide +kernel
theorem dX5_flip_10 : decode cX5_flip 10 = .ok (.getfield 23, 3) := by decide +kernel
theorem dX5_flip_13 : decode cX5_flip 13 = .ok (.iload_n 1, 1) := by decide +kernel
theorem dX5_flip_14 : decode cX5_flip 14 = .ok (.invokevirtual 108, 3) := by decide +kernel
theorem dX5_flip_17 : decode cX5_flip 17 = .ok (.ifCond .ne 13, 3) := by decide +kernel
theorem dX5_flip_20 : decode cX5_flip 20 = .ok (.new 61, 3) := by decide +kernel
theorem dX5_flip_23 : decode cX5_flip 23 = .ok (.dup, 1) := by decide +kernel
theorem dX5_flip_24 : decode cX5_flip 24 = .ok (.ldc 111, 2) := by decide +kernel
theorem dX5_flip_26 : decode cX5_flip 26 = .ok (.invokespecial 65, 3) := by decide +kernel
theorem dX5_flip_29 : decode cX5_flip 29 = .ok (.athrow, 1) := by decide +kernel
theorem dX5_flip_30 : decode cX5_flip 30 = .ok (.aload_n 0, 1) := by decide +kernel
theorem dX5_flip_31 : decode cX5_flip 31 = .ok (.invokevirtual 68, 3) := by decide +kernel
theorem dX5_flip_34 : decode cX5_flip 34 = .ok (.aload_n 0, 1) := by decide +kernel
theorem dX5_flip_35 : decode cX5_flip 35 = .ok (.getfield 19, 3) := by decide +kernel
theorem dX5_flip_38 : decode cX5_flip 38 = .ok (.aload_n 0, 1) := by decide +kernel
theorem dX5_flip_39 : decode cX5_flip 39 = .ok (.getfield 12, 3) := by decide +kernel
theorem dX5_flip_42 : decode cX5_flip 42 = .ok (.iload_n 1, 1) := by decide +kernel
theorem dX5_flip_43 : decode cX5_flip 43 = .ok (.invokevirtual 104, 3) := by decide +kernel
theorem dX5_flip_46 : decode cX5_flip 46 = .ok (.ireturn, 1) := by decide +kernel
theorem dX5_drive_0 : decode cX5_drive 0 = .ok (.aload_n 0, 1) := by decide +kernel
theorem dX5_drive_1 : decode cX5_drive 1 = .ok (.iload_n 1, 1) := by decide +kernel
theorem dX5_drive_2 : decode cX5_drive 2 = .ok (.invokevirtual 75, 3) := by decide +kernel
theorem dX5_drive_5 : decode cX5_drive 5 = .ok (.aload_n 0, 1) := by decide +kernel
theorem dX5_drive_6 : decode cX5_drive 6 = .ok (.getfield 12, 3) := by decide +kernel
theorem dX5_drive_9 : decode cX5_drive 9 = .ok (.getfield 113, 3) := by decide +kernel
theorem dX5_drive_12 : decode cX5_drive 12 = .ok (.istore_n 2, 1) := by decide +kernel
theorem dX5_drive_13 : decode cX5_drive 13 = .ok (.aload_n 0, 1) := by decide +kernel
theorem dX5_drive_14 : decode cX5_drive 14 = .ok (.invokevirtual 54, 3) := by decide +kernel
theorem dX5_drive_17 : decode cX5_drive 17 = .ok (.aload_n 0, 1) := by decide +kernel
theorem dX5_drive_18 : decode cX5_drive 18 = .ok (.getfield 23, 3) := by decide +kernel
theorem dX5_drive_21 : decode cX5_drive 21 = .ok (.iload_n 1, 1) := by decide +kernel
theorem dX5_drive_22 : decode cX5_drive 22 = .ok (.putfield 113, 3) := by decide +kernel
theorem dX5_drive_25 : decode cX5_drive 25 = .ok (.aload_n 0, 1) := by decide +kernel
theorem dX5_drive_26 : decode cX5_drive 26 = .ok (.invokevirtual 68, 3) := by decide +kernel
theorem dX5_drive_29 : decode cX5_drive 29 = .ok (.iload_n 2, 1) := by decide +kernel
theorem dX5_drive_30 : decode cX5_drive 30 = .ok (.ireturn, 1) := by decide +kernel
theorem dX5_goal_0 : decode cX5_goal 0 = .ok (.aload_n 0, 1) := by decide +kernel
theorem dX5_goal_1 : decode cX5_goal 1 = .ok (.iload_n 1, 1) := by decide +kernel
theorem dX5_goal_2 : decode cX5_goal 2 = .ok (.invokevirtual 75, 3) := by decide +kernel
theorem dX5_goal_5 : decode cX5_goal 5 = .ok (.iload_n 2, 1) := by decide +kernel
theorem dX5_goal_6 : decode cX5_goal 6 = .ok (.bipush (-99), 2) := by decide +kernel
theorem dX5_goal_8 : decode cX5_goal 8 = .ok (.if_icmp .lt 13, 3) := by decide +kernel
theorem dX5_goal_11 : decode cX5_goal 11 = .ok (.iload_n 2, 1) := by decide +kernel
theorem dX5_goal_12 : decode cX5_goal 12 = .ok (.bipush 99, 2) := by decide +kernel
theorem dX5_goal_14 : decode cX5_goal 14 = .ok (.if_icmp .gt 7, 3) := by decide +kernel
theorem dX5_goal_17 : decode cX5_goal 17 = .ok (.iconst 1, 1) := by decide +kernel
theorem dX5_goal_18 : decode cX5_goal 18 = .ok (.goto 4, 3) := by decide +kernel
theorem dX5_goal_21 : decode cX5_goal 21 = .ok (.iconst 0, 1) := by decide +kernel
theorem dX5_goal_22 : decode cX5_goal 22 = .ok (.invokestatic 86, 3) := by decide +kernel
theorem dX5_goal_25 : decode cX5_goal 25 = .ok (.iload_n 3, 1) := by decide +kernel
theorem dX5_goal_26 : decode cX5_goal 26 = .ok (.iconst 1, 1) := by decide +kernel
theorem dX5_goal_27 : decode cX5_goal 27 = .ok (.if_icmp .lt 13, 3) := by decide +kernel
theorem dX5_goal_30 : decode cX5_goal 30 = .ok (.iload_n 3, 1) := by decide +kernel
theorem dX5_goal_31 : decode cX5_goal 31 = .ok (.bipush 99, 2) := by decide +kernel
theorem dX5_goal_33 : decode cX5_goal 33 = .ok (.if_icmp .gt 7, 3) := by decide +kernel
theorem dX5_goal_36 : decode cX5_goal 36 = .ok (.iconst 1, 1) := by decide +kernel
theorem dX5_goal_37 : decode cX5_goal 37 = .ok (.goto 4, 3) := by decide +kernel
theorem dX5_goal_40 : decode cX5_goal 40 = .ok (.iconst 0, 1) := by decide +kernel
theorem dX5_goal_41 : decode cX5_goal 41 = .ok (.invokestatic 86, 3) := by decide +kernel
theorem dX5_goal_44 : decode cX5_goal 44 = .ok (.aload_n 0, 1) := by decide +kernel
theorem dX5_goal_45 : decode cX5_goal 45 = .ok (.invokevirtual 54, 3) := by decide +kernel
theorem dX5_goal_48 : decode cX5_goal 48 = .ok (.aload_n 0, 1) := by decide +kernel
theorem dX5_goal_49 : decode cX5_goal 49 = .ok (.getfield 23, 3) := by decide +kernel
theorem dX5_goal_52 : decode cX5_goal 52 = .ok (.iload_n 1, 1) := by decide +kernel
theorem dX5_goal_53 : decode cX5_goal 53 = .ok (.iload_n 2, 1) := by decide +kernel
theorem dX5_goal_54 : decode cX5_goal 54 = .ok (.iload_n 3, 1) := by decide +kernel
theorem dX5_goal_55 : decode cX5_goal 55 = .ok (.invokevirtual 116, 3) := by decide +kernel
theorem dX5_goal_58 : decode cX5_goal 58 = .ok (.aload_n 0, 1) := by decide +kernel
theorem dX5_goal_59 : decode cX5_goal 59 = .ok (.invokevirtual 68, 3) := by decide +kernel
theorem dX5_goal_62 : decode cX5_goal 62 = .ok (.aload_n 0, 1) := by decide +kernel
theorem dX5_goal_63 : decode cX5_goal 63 = .ok (.getfield 19, 3) := by decide +kernel
theorem dX5_goal_66 : decode cX5_goal 66 = .ok (.aload_n 0, 1) := by decide +kernel
theorem dX5_goal_67 : decode cX5_goal 67 = .ok (.getfield 12, 3) := by decide +kernel
theorem dX5_goal_70 : decode cX5_goal 70 = .ok (.invokevirtual 120, 3) := by decide +kernel
theorem dX5_goal_73 : decode cX5_goal 73 = .ok (.invokestatic 124, 3) := by decide +kernel
theorem dX5_goal_76 : decode cX5_goal 76 = .ok (.ireturn, 1) := by decide +kernel
theorem dX5_set_0 : decode cX5_set 0 = .ok (.iload_n 1, 1) := by decide +kernel
theorem dX5_set_1 : decode cX5_set 1 = .ok (.ifCond .lt 12, 3) := by decide +kernel
theorem dX5_set_4 : decode cX5_set 4 = .ok (.iload_n 1, 1) := by decide +kernel
theorem dX5_set_5 : decode cX5_set 5 = .ok (.iconst 3, 1) := by decide +kernel
theorem dX5_set_6 : decode cX5_set 6 = .ok (.if_icmp .gt 7, 3) := by decide +kernel
theorem dX5_set_9 : decode cX5_set 9 = .ok (.iconst 1, 1) := by decide +kernel
theorem dX5_set_10 : decode cX5_set 10 = .ok (.goto 4, 3) := by decide +kernel
theorem dX5_set_13 : decode cX5_set 13 = .ok (.iconst 0, 1) := by decide +kernel
theorem dX5_set_14 : decode cX5_set 14 = .ok (.invokestatic 86, 3) := by decide +kernel
theorem dX5_set_17 : decode cX5_set 17 = .ok (.aload_n 0, 1) := by decide +kernel
theorem dX5_set_18 : decode cX5_set 18 = .ok (.getfield 12, 3) := by decide +kernel
theorem dX5_set_21 : decode cX5_set 21 = .ok (.getfield 128, 3) := by decide +kernel
theorem dX5_set_24 : decode cX5_set 24 = .ok (.istore_n 2, 1) := by decide +kernel
theorem dX5_set_25 : decode cX5_set 25 = .ok (.aload_n 0, 1) := by decide +kernel
theorem dX5_set_26 : decode cX5_set 26 = .ok (.invokevirtual 54, 3) := by decide +kernel
theorem dX5_set_29 : decode cX5_set 29 = .ok (.aload_n 0, 1) := by decide +kernel
theorem dX5_set_30 : decode cX5_set 30 = .ok (.getfield 23, 3) := by decide +kernel
theorem dX5_set_33 : decode cX5_set 33 = .ok (.iload_n 1, 1) := by decide +kernel
theorem dX5_set_34 : decode cX5_set 34 = .ok (.putfield 128, 3) := by decide +kernel
theorem dX5_set_37 : decode cX5_set 37 = .ok (.aload_n 0, 1) := by decide +kernel
theorem dX5_set_38 : decode cX5_set 38 = .ok (.invokevirtual 68, 3) := by decide +kernel
theorem dX5_set_41 : decode cX5_set 41 = .ok (.iload_n 2, 1) := by decide +kernel
theorem dX5_set_42 : decode cX5_set 42 = .ok (.ireturn, 1) := by decide +kernel
theorem dX5_append_0 : decode cX5_append 0 = .ok (.iload_n 1, 1) := by decide +kernel
theorem dX5_append_1 : decode cX5_append 1 = .ok (.bipush 33, 2) := by decide +kernel
theorem dX5_append_3 : decode cX5_append 3 = .ok (.if_icmp .lt 13, 3) := by decide +kernel
theorem dX5_append_6 : decode cX5_append 6 = .ok (.iload_n 1, 1) := by decide +kernel
theorem dX5_append_7 : decode cX5_append 7 = .ok (.bipush 126, 2) := by decide +kernel
theorem dX5_append_9 : decode cX5_append 9 = .ok (.if_icmp .gt 7, 3) := by decide +kernel
theorem dX5_append_12 : decode cX5_append 12 = .ok (.iconst 1, 1) := by decide +kernel
theorem dX5_append_13 : decode cX5_append 13 = .ok (.goto 4, 3) := by decide +kernel
theorem dX5_append_16 : decode cX5_append 16 = .ok (.iconst 0, 1) := by decide +kernel
theorem dX5_append_17 : decode cX5_append 17 = .ok (.invokestatic 86, 3) := by decide +kernel
theorem dX5_append_20 : decode cX5_append 20 = .ok (.aload_n 0, 1) := by decide +kernel
theorem dX5_append_21 : decode cX5_append 21 = .ok (.getfield 39, 3) := by decide +kernel
theorem dX5_append_24 : decode cX5_append 24 = .ok (.iload_n 1, 1) := by decide +kernel
theorem dX5_append_25 : decode cX5_append 25 = .ok (.invokevirtual 131, 3) := by decide +kernel
theorem dX5_append_28 : decode cX5_append 28 = .ok (.ifCond .ne 13, 3) := by decide +kernel
theorem dX5_append_31 : decode cX5_append 31 = .ok (.new 61, 3) := by decide +kernel
theorem dX5_append_34 : decode cX5_append 34 = .ok (.dup, 1) := by decide +kernel
theorem dX5_append_35 : decode cX5_append 35 = .ok (.ldc 134, 2) := by decide +kernel
theorem dX5_append_37 : decode cX5_append 37 = .ok (.invokespecial 65, 3) := by decide +kernel
theorem dX5_append_40 : decode cX5_append 40 = .ok (.athrow, 1) := by decide +kernel
theorem dX5_append_41 : decode cX5_append 41 = .ok (.aload_n 0, 1) := by decide +kernel
theorem dX5_append_42 : decode cX5_append 42 = .ok (.getfield 39, 3) := by decide +kernel
theorem dX5_append_45 : decode cX5_append 45 = .ok (.getfield 136, 3) := by decide +kernel
theorem dX5_append_48 : decode cX5_append 48 = .ok (.ireturn, 1) := by decide +kernel
theorem dX5_clearBuffer_0 : decode cX5_clearBuffer 0 = .ok (.aload_n 0, 1) := by decide +kernel
theorem dX5_clearBuffer_1 : decode cX5_clearBuffer 1 = .ok (.getfield 39, 3) := by decide +kernel
theorem dX5_clearBuffer_4 : decode cX5_clearBuffer 4 = .ok (.getfield 136, 3) := by decide +kernel
theorem dX5_clearBuffer_7 : decode cX5_clearBuffer 7 = .ok (.istore_n 1, 1) := by decide +kernel
theorem dX5_clearBuffer_8 : decode cX5_clearBuffer 8 = .ok (.aload_n 0, 1) := by decide +kernel
theorem dX5_clearBuffer_9 : decode cX5_clearBuffer 9 = .ok (.getfield 39, 3) := by decide +kernel
theorem dX5_clearBuffer_12 : decode cX5_clearBuffer 12 = .ok (.iconst 0, 1) := by decide +kernel
theorem dX5_clearBuffer_13 : decode cX5_clearBuffer 13 = .ok (.putfield 136, 3) := by decide +kernel
theorem dX5_clearBuffer_16 : decode cX5_clearBuffer 16 = .ok (.iload_n 1, 1) := by decide +kernel
theorem dX5_clearBuffer_17 : decode cX5_clearBuffer 17 = .ok (.ireturn, 1) := by decide +kernel
theorem dX5_firstError_0 : decode cX5_firstError 0 = .ok (.aload_n 0, 1) := by decide +kernel
theorem dX5_firstError_1 : decode cX5_firstError 1 = .ok (.getfield 39, 3) := by decide +kernel
theorem dX5_firstError_4 : decode cX5_firstError 4 = .ok (.invokevirtual 139, 3) := by decide +kernel
theorem dX5_firstError_7 : decode cX5_firstError 7 = .ok (.aload_n 0, 1) := by decide +kernel
theorem dX5_firstError_8 : decode cX5_firstError 8 = .ok (.getfield 39, 3) := by decide +kernel
theorem dX5_firstError_11 : decode cX5_firstError 11 = .ok (.getfield 142, 3) := by decide +kernel
theorem dX5_firstError_14 : decode cX5_firstError 14 = .ok (.ireturn, 1) := by decide +kernel
theorem dX5_build_0 : decode cX5_build 0 = .ok (.aload_n 0, 1) := by decide +kernel
theorem dX5_build_1 : decode cX5_build 1 = .ok (.getfield 39, 3) := by decide +kernel
theorem dX5_build_4 : decode cX5_build 4 = .ok (.invokevirtual 139, 3) := by decide +kernel
theorem dX5_build_7 : decode cX5_build 7 = .ok (.aload_n 0, 1) := by decide +kernel
theorem dX5_build_8 : decode cX5_build 8 = .ok (.getfield 39, 3) := by decide +kernel
theorem dX5_build_11 : decode cX5_build 11 = .ok (.getfield 145, 3) := by decide +kernel
theorem dX5_build_14 : decode cX5_build 14 = .ok (.invokestatic 86, 3) := by decide +kernel
theorem dX5_build_17 : decode cX5_build 17 = .ok (.aload_n 0, 1) := by decide +kernel
theorem dX5_build_18 : decode cX5_build 18 = .ok (.invokevirtual 54, 3) := by decide +kernel
theorem dX5_build_21 : decode cX5_build 21 = .ok (.iconst 0, 1) := by decide +kernel
theorem dX5_build_22 : decode cX5_build 22 = .ok (.istore_n 1, 1) := by decide +kernel
theorem dX5_build_23 : decode cX5_build 23 = .ok (.iconst 0, 1) := by decide +kernel
theorem dX5_build_24 : decode cX5_build 24 = .ok (.istore_n 2, 1) := by decide +kernel
theorem dX5_build_25 : decode cX5_build 25 = .ok (.iload_n 2, 1) := by decide +kernel
theorem dX5_build_26 : decode cX5_build 26 = .ok (.aload_n 0, 1) := by decide +kernel
theorem dX5_build_27 : decode cX5_build 27 = .ok (.getfield 39, 3) := by decide +kernel
theorem dX5_build_30 : decode cX5_build 30 = .ok (.getfield 149, 3) := by decide +kernel
theorem dX5_build_33 : decode cX5_build 33 = .ok (.if_icmp .ge 20, 3) := by decide +kernel
theorem dX5_build_36 : decode cX5_build 36 = .ok (.aload_n 0, 1) := by decide +kernel
theorem dX5_build_37 : decode cX5_build 37 = .ok (.iload_n 2, 1) := by decide +kernel
theorem dX5_build_38 : decode cX5_build 38 = .ok (.invokevirtual 152, 3) := by decide +kernel
theorem dX5_build_41 : decode cX5_build 41 = .ok (.ifCond .eq 12, 3) := by decide +kernel
theorem dX5_build_44 : decode cX5_build 44 = .ok (.iinc 1 1, 3) := by decide +kernel
theorem dX5_build_47 : decode cX5_build 47 = .ok (.iinc 2 1, 3) := by decide +kernel
theorem dX5_build_50 : decode cX5_build 50 = .ok (.goto (-25), 3) := by decide +kernel
theorem dX5_build_53 : decode cX5_build 53 = .ok (.aload_n 0, 1) := by decide +kernel
theorem dX5_build_54 : decode cX5_build 54 = .ok (.getfield 39, 3) := by decide +kernel
theorem dX5_build_57 : decode cX5_build 57 = .ok (.iconst 0, 1) := by decide +kernel
theorem dX5_build_58 : decode cX5_build 58 = .ok (.putfield 136, 3) := by decide +kernel
theorem dX5_build_61 : decode cX5_build 61 = .ok (.aload_n 0, 1) := by decide +kernel
theorem dX5_build_62 : decode cX5_build 62 = .ok (.invokevirtual 68, 3) := by decide +kernel
theorem dX5_build_65 : decode cX5_build 65 = .ok (.iload_n 1, 1) := by decide +kernel
theorem dX5_build_66 : decode cX5_build 66 = .ok (.ireturn, 1) := by decide +kernel
theorem dX5_undo_0 : decode cX5_undo 0 = .ok (.aload_n 0, 1) := by decide +kernel
theorem dX5_undo_1 : decode cX5_undo 1 = .ok (.getfield 46, 3) := by decide +kernel
theorem dX5_undo_4 : decode cX5_undo 4 = .ok (.aload_n 0, 1) := by decide +kernel
theorem dX5_undo_5 : decode cX5_undo 5 = .ok (.getfield 12, 3) := by decide +kernel
theorem dX5_undo_8 : decode cX5_undo 8 = .ok (.invokevirtual 155, 3) := by decide +kernel
theorem dX5_undo_11 : decode cX5_undo 11 = .ok (.ifCond .ne 13, 3) := by decide +kernel
theorem dX5_undo_14 : decode cX5_undo 14 = .ok (.new 61, 3) := by decide +kernel
theorem dX5_undo_17 : decode cX5_undo 17 = .ok (.dup, 1) := by decide +kernel
theorem dX5_undo_18 : decode cX5_undo 18 = .ok (.ldc 158, 2) := by decide +kernel
theorem dX5_undo_20 : decode cX5_undo 20 = .ok (.invokespecial 65, 3) := by decide +kernel
theorem dX5_undo_23 : decode cX5_undo 23 = .ok (.athrow, 1) := by decide +kernel
theorem dX5_undo_24 : decode cX5_undo 24 = .ok (.aload_n 0, 1) := by decide +kernel
theorem dX5_undo_25 : decode cX5_undo 25 = .ok (.getfield 19, 3) := by decide +kernel
theorem dX5_undo_28 : decode cX5_undo 28 = .ok (.aload_n 0, 1) := by decide +kernel
theorem dX5_undo_29 : decode cX5_undo 29 = .ok (.getfield 12, 3) := by decide +kernel
theorem dX5_undo_32 : decode cX5_undo 32 = .ok (.invokevirtual 160, 3) := by decide +kernel
theorem dX5_undo_35 : decode cX5_undo 35 = .ok (.aload_n 0, 1) := by decide +kernel
theorem dX5_undo_36 : decode cX5_undo 36 = .ok (.getfield 46, 3) := by decide +kernel
theorem dX5_undo_39 : decode cX5_undo 39 = .ok (.getfield 164, 3) := by decide +kernel
theorem dX5_undo_42 : decode cX5_undo 42 = .ok (.ireturn, 1) := by decide +kernel
theorem dX5_peg_0 : decode cX5_peg 0 = .ok (.aload_n 0, 1) := by decide +kernel
theorem dX5_peg_1 : decode cX5_peg 1 = .ok (.iload_n 1, 1) := by decide +kernel
theorem dX5_peg_2 : decode cX5_peg 2 = .ok (.invokevirtual 75, 3) := by decide +kernel
theorem dX5_peg_5 : decode cX5_peg 5 = .ok (.iload_n 2, 1) := by decide +kernel
theorem dX5_peg_6 : decode cX5_peg 6 = .ok (.ifCond .lt 13, 3) := by decide +kernel
theorem dX5_peg_9 : decode cX5_peg 9 = .ok (.iload_n 2, 1) := by decide +kernel
theorem dX5_peg_10 : decode cX5_peg 10 = .ok (.bipush 8, 2) := by decide +kernel
theorem dX5_peg_12 : decode cX5_peg 12 = .ok (.if_icmp .gt 7, 3) := by decide +kernel
theorem dX5_peg_15 : decode cX5_peg 15 = .ok (.iconst 1, 1) := by decide +kernel
theorem dX5_peg_16 : decode cX5_peg 16 = .ok (.goto 4, 3) := by decide +kernel
theorem dX5_peg_19 : decode cX5_peg 19 = .ok (.iconst 0, 1) := by decide +kernel
theorem dX5_peg_20 : decode cX5_peg 20 = .ok (.invokestatic 86, 3) := by decide +kernel
theorem dX5_peg_23 : decode cX5_peg 23 = .ok (.aload_n 0, 1) := by decide +kernel
theorem dX5_peg_24 : decode cX5_peg 24 = .ok (.iload_n 1, 1) := by decide +kernel
theorem dX5_peg_25 : decode cX5_peg 25 = .ok (.iload_n 2, 1) := by decide +kernel
theorem dX5_peg_26 : decode cX5_peg 26 = .ok (.invokevirtual 167, 3) := by decide +kernel
theorem dX5_peg_29 : decode cX5_peg 29 = .ok (.ireturn, 1) := by decide +kernel
theorem dX5_speed_0 : decode cX5_speed 0 = .ok (.aload_n 0, 1) := by decide +kernel
theorem dX5_speed_1 : decode cX5_speed 1 = .ok (.iload_n 1, 1) := by decide +kernel
theorem dX5_speed_2 : decode cX5_speed 2 = .ok (.invokevirtual 75, 3) := by decide +kernel
theorem dX5_speed_5 : decode cX5_speed 5 = .ok (.iload_n 2, 1) := by decide +kernel
theorem dX5_speed_6 : decode cX5_speed 6 = .ok (.ifCond .eq 8, 3) := by decide +kernel
theorem dX5_speed_9 : decode cX5_speed 9 = .ok (.iload_n 2, 1) := by decide +kernel
theorem dX5_speed_10 : decode cX5_speed 10 = .ok (.iconst 1, 1) := by decide +kernel
theorem dX5_speed_11 : decode cX5_speed 11 = .ok (.if_icmp .ne 7, 3) := by decide +kernel
theorem dX5_speed_14 : decode cX5_speed 14 = .ok (.iconst 1, 1) := by decide +kernel
theorem dX5_speed_15 : decode cX5_speed 15 = .ok (.goto 4, 3) := by decide +kernel
theorem dX5_speed_18 : decode cX5_speed 18 = .ok (.iconst 0, 1) := by decide +kernel
theorem dX5_speed_19 : decode cX5_speed 19 = .ok (.invokestatic 86, 3) := by decide +kernel
theorem dX5_speed_22 : decode cX5_speed 22 = .ok (.iload_n 2, 1) := by decide +kernel
theorem dX5_speed_23 : decode cX5_speed 23 = .ok (.ifCond .ne 15, 3) := by decide +kernel
theorem dX5_speed_26 : decode cX5_speed 26 = .ok (.aload_n 0, 1) := by decide +kernel
theorem dX5_speed_27 : decode cX5_speed 27 = .ok (.getfield 19, 3) := by decide +kernel
theorem dX5_speed_30 : decode cX5_speed 30 = .ok (.getfield 171, 3) := by decide +kernel
theorem dX5_speed_33 : decode cX5_speed 33 = .ok (.iload_n 1, 1) := by decide +kernel
theorem dX5_speed_34 : decode cX5_speed 34 = .ok (.laload, 1) := by decide +kernel
theorem dX5_speed_35 : decode cX5_speed 35 = .ok (.goto 12, 3) := by decide +kernel
theorem dX5_speed_38 : decode cX5_speed 38 = .ok (.aload_n 0, 1) := by decide +kernel
theorem dX5_speed_39 : decode cX5_speed 39 = .ok (.getfield 19, 3) := by decide +kernel
theorem dX5_speed_42 : decode cX5_speed 42 = .ok (.getfield 175, 3) := by decide +kernel
theorem dX5_speed_45 : decode cX5_speed 45 = .ok (.iload_n 1, 1) := by decide +kernel
theorem dX5_speed_46 : decode cX5_speed 46 = .ok (.laload, 1) := by decide +kernel
theorem dX5_speed_47 : decode cX5_speed 47 = .ok (.lreturn, 1) := by decide +kernel
theorem dX5_meshes_0 : decode cX5_meshes 0 = .ok (.aload_n 0, 1) := by decide +kernel
theorem dX5_meshes_1 : decode cX5_meshes 1 = .ok (.iload_n 1, 1) := by decide +kernel
theorem dX5_meshes_2 : decode cX5_meshes 2 = .ok (.invokevirtual 75, 3) := by decide +kernel
theorem dX5_meshes_5 : decode cX5_meshes 5 = .ok (.aload_n 0, 1) := by decide +kernel
theorem dX5_meshes_6 : decode cX5_meshes 6 = .ok (.iload_n 2, 1) := by decide +kernel
theorem dX5_meshes_7 : decode cX5_meshes 7 = .ok (.invokevirtual 75, 3) := by decide +kernel
theorem dX5_meshes_10 : decode cX5_meshes 10 = .ok (.aload_n 0, 1) := by decide +kernel
theorem dX5_meshes_11 : decode cX5_meshes 11 = .ok (.getfield 19, 3) := by decide +kernel
theorem dX5_meshes_14 : decode cX5_meshes 14 = .ok (.iload_n 1, 1) := by decide +kernel
theorem dX5_meshes_15 : decode cX5_meshes 15 = .ok (.iload_n 2, 1) := by decide +kernel
theorem dX5_meshes_16 : decode cX5_meshes 16 = .ok (.invokevirtual 178, 3) := by decide +kernel
theorem dX5_meshes_19 : decode cX5_meshes 19 = .ok (.ireturn, 1) := by decide +kernel
theorem dX5_train_0 : decode cX5_train 0 = .ok (.aload_n 0, 1) := by decide +kernel
theorem dX5_train_1 : decode cX5_train 1 = .ok (.iload_n 1, 1) := by decide +kernel
theorem dX5_train_2 : decode cX5_train 2 = .ok (.invokevirtual 75, 3) := by decide +kernel
theorem dX5_train_5 : decode cX5_train 5 = .ok (.aload_n 0, 1) := by decide +kernel
theorem dX5_train_6 : decode cX5_train 6 = .ok (.iload_n 2, 1) := by decide +kernel
theorem dX5_train_7 : decode cX5_train 7 = .ok (.invokevirtual 75, 3) := by decide +kernel
theorem dX5_train_10 : decode cX5_train 10 = .ok (.iload_n 3, 1) := by decide +kernel
theorem dX5_train_11 : decode cX5_train 11 = .ok (.ifCond .lt 12, 3) := by decide +kernel
theorem dX5_train_14 : decode cX5_train 14 = .ok (.iload_n 3, 1) := by decide +kernel
theorem dX5_train_15 : decode cX5_train 15 = .ok (.iconst 3, 1) := by decide +kernel
theorem dX5_train_16 : decode cX5_train 16 = .ok (.if_icmp .gt 7, 3) := by decide +kernel
theorem dX5_train_19 : decode cX5_train 19 = .ok (.iconst 1, 1) := by decide +kernel
theorem dX5_train_20 : decode cX5_train 20 = .ok (.goto 4, 3) := by decide +kernel
theorem dX5_train_23 : decode cX5_train 23 = .ok (.iconst 0, 1) := by decide +kernel
theorem dX5_train_24 : decode cX5_train 24 = .ok (.invokestatic 86, 3) := by decide +kernel
theorem dX5_train_27 : decode cX5_train 27 = .ok (.aload_n 0, 1) := by decide +kernel
theorem dX5_train_28 : decode cX5_train 28 = .ok (.getfield 32, 3) := by decide +kernel
theorem dX5_train_31 : decode cX5_train 31 = .ok (.aload_n 0, 1) := by decide +kernel
theorem dX5_train_32 : decode cX5_train 32 = .ok (.getfield 12, 3) := by decide +kernel
theorem dX5_train_35 : decode cX5_train 35 = .ok (.aload_n 0, 1) := by decide +kernel
theorem dX5_train_36 : decode cX5_train 36 = .ok (.getfield 19, 3) := by decide +kernel
theorem dX5_train_39 : decode cX5_train 39 = .ok (.iload_n 1, 1) := by decide +kernel
theorem dX5_train_40 : decode cX5_train 40 = .ok (.iload_n 2, 1) := by decide +kernel
theorem dX5_train_41 : decode cX5_train 41 = .ok (.invokevirtual 181, 3) := by decide +kernel
theorem dX5_train_44 : decode cX5_train 44 = .ok (.aload_n 0, 1) := by decide +kernel
theorem dX5_train_45 : decode cX5_train 45 = .ok (.iload_n 3, 1) := by decide +kernel
theorem dX5_train_46 : decode cX5_train 46 = .ok (.invokevirtual 185, 3) := by decide +kernel
theorem dX5_train_49 : decode cX5_train 49 = .ok (.ireturn, 1) := by decide +kernel
theorem dX5_ratio_0 : decode cX5_ratio 0 = .ok (.aload_n 0, 1) := by decide +kernel
theorem dX5_ratio_1 : decode cX5_ratio 1 = .ok (.iload_n 1, 1) := by decide +kernel
theorem dX5_ratio_2 : decode cX5_ratio 2 = .ok (.invokevirtual 75, 3) := by decide +kernel
theorem dX5_ratio_5 : decode cX5_ratio 5 = .ok (.aload_n 0, 1) := by decide +kernel
theorem dX5_ratio_6 : decode cX5_ratio 6 = .ok (.iload_n 2, 1) := by decide +kernel
theorem dX5_ratio_7 : decode cX5_ratio 7 = .ok (.invokevirtual 75, 3) := by decide +kernel
theorem dX5_ratio_10 : decode cX5_ratio 10 = .ok (.iload_n 3, 1) := by decide +kernel
theorem dX5_ratio_11 : decode cX5_ratio 11 = .ok (.ifCond .eq 8, 3) := by decide +kernel
theorem dX5_ratio_14 : decode cX5_ratio 14 = .ok (.iload_n 3, 1) := by decide +kernel
theorem dX5_ratio_15 : decode cX5_ratio 15 = .ok (.iconst 1, 1) := by decide +kernel
theorem dX5_ratio_16 : decode cX5_ratio 16 = .ok (.if_icmp .ne 7, 3) := by decide +kernel
theorem dX5_ratio_19 : decode cX5_ratio 19 = .ok (.iconst 1, 1) := by decide +kernel
theorem dX5_ratio_20 : decode cX5_ratio 20 = .ok (.goto 4, 3) := by decide +kernel
theorem dX5_ratio_23 : decode cX5_ratio 23 = .ok (.iconst 0, 1) := by decide +kernel
theorem dX5_ratio_24 : decode cX5_ratio 24 = .ok (.invokestatic 86, 3) := by decide +kernel
theorem dX5_ratio_27 : decode cX5_ratio 27 = .ok (.aload_n 0, 1) := by decide +kernel
theorem dX5_ratio_28 : decode cX5_ratio 28 = .ok (.getfield 32, 3) := by decide +kernel
theorem dX5_ratio_31 : decode cX5_ratio 31 = .ok (.aload_n 0, 1) := by decide +kernel
theorem dX5_ratio_32 : decode cX5_ratio 32 = .ok (.getfield 12, 3) := by decide +kernel
theorem dX5_ratio_35 : decode cX5_ratio 35 = .ok (.aload_n 0, 1) := by decide +kernel
theorem dX5_ratio_36 : decode cX5_ratio 36 = .ok (.getfield 19, 3) := by decide +kernel
theorem dX5_ratio_39 : decode cX5_ratio 39 = .ok (.iload_n 1, 1) := by decide +kernel
theorem dX5_ratio_40 : decode cX5_ratio 40 = .ok (.iload_n 2, 1) := by decide +kernel
theorem dX5_ratio_41 : decode cX5_ratio 41 = .ok (.invokevirtual 181, 3) := by decide +kernel
theorem dX5_ratio_44 : decode cX5_ratio 44 = .ok (.iload_n 3, 1) := by decide +kernel
theorem dX5_ratio_45 : decode cX5_ratio 45 = .ok (.ifCond .ne 13, 3) := by decide +kernel
theorem dX5_ratio_48 : decode cX5_ratio 48 = .ok (.aload_n 0, 1) := by decide +kernel
theorem dX5_ratio_49 : decode cX5_ratio 49 = .ok (.getfield 32, 3) := by decide +kernel
theorem dX5_ratio_52 : decode cX5_ratio 52 = .ok (.getfield 188, 3) := by decide +kernel
theorem dX5_ratio_55 : decode cX5_ratio 55 = .ok (.goto 10, 3) := by decide +kernel
theorem dX5_ratio_58 : decode cX5_ratio 58 = .ok (.aload_n 0, 1) := by decide +kernel
theorem dX5_ratio_59 : decode cX5_ratio 59 = .ok (.getfield 32, 3) := by decide +kernel
theorem dX5_ratio_62 : decode cX5_ratio 62 = .ok (.getfield 192, 3) := by decide +kernel
theorem dX5_ratio_65 : decode cX5_ratio 65 = .ok (.lreturn, 1) := by decide +kernel
theorem dX5_marks_0 : decode cX5_marks 0 = .ok (.aload_n 0, 1) := by decide +kernel
theorem dX5_marks_1 : decode cX5_marks 1 = .ok (.getfield 19, 3) := by decide +kernel
theorem dX5_marks_4 : decode cX5_marks 4 = .ok (.aload_n 0, 1) := by decide +kernel
theorem dX5_marks_5 : decode cX5_marks 5 = .ok (.getfield 12, 3) := by decide +kernel
theorem dX5_marks_8 : decode cX5_marks 8 = .ok (.invokevirtual 195, 3) := by decide +kernel
theorem dX5_marks_11 : decode cX5_marks 11 = .ok (.lreturn, 1) := by decide +kernel
theorem dX5_count_0 : decode cX5_count 0 = .ok (.iload_n 1, 1) := by decide +kernel
theorem dX5_count_1 : decode cX5_count 1 = .ok (.ifCond .lt 13, 3) := by decide +kernel
theorem dX5_count_4 : decode cX5_count 4 = .ok (.iload_n 1, 1) := by decide +kernel
theorem dX5_count_5 : decode cX5_count 5 = .ok (.bipush 10, 2) := by decide +kernel
theorem dX5_count_7 : decode cX5_count 7 = .ok (.if_icmp .gt 7, 3) := by decide +kernel
theorem dX5_count_10 : decode cX5_count 10 = .ok (.iconst 1, 1) := by decide +kernel
theorem dX5_count_11 : decode cX5_count 11 = .ok (.goto 4, 3) := by decide +kernel
theorem dX5_count_14 : decode cX5_count 14 = .ok (.iconst 0, 1) := by decide +kernel
theorem dX5_count_15 : decode cX5_count 15 = .ok (.invokestatic 86, 3) := by decide +kernel
theorem dX5_count_18 : decode cX5_count 18 = .ok (.aload_n 0, 1) := by decide +kernel
theorem dX5_count_19 : decode cX5_count 19 = .ok (.iload_n 1, 1) := by decide +kernel
theorem dX5_count_20 : decode cX5_count 20 = .ok (.invokevirtual 199, 3) := by decide +kernel
theorem dX5_count_23 : decode cX5_count 23 = .ok (.ireturn, 1) := by decide +kernel
theorem dX5_ifPut_0 : decode cX5_ifPut 0 = .ok (.aload_n 0, 1) := by decide +kernel
theorem dX5_ifPut_1 : decode cX5_ifPut 1 = .ok (.iload_n 1, 1) := by decide +kernel
theorem dX5_ifPut_2 : decode cX5_ifPut 2 = .ok (.invokevirtual 75, 3) := by decide +kernel
theorem dX5_ifPut_5 : decode cX5_ifPut 5 = .ok (.iload_n 2, 1) := by decide +kernel
theorem dX5_ifPut_6 : decode cX5_ifPut 6 = .ok (.invokestatic 79, 3) := by decide +kernel
theorem dX5_ifPut_9 : decode cX5_ifPut 9 = .ok (.ifCond .eq 25, 3) := by decide +kernel
theorem dX5_ifPut_12 : decode cX5_ifPut 12 = .ok (.iload_n 3, 1) := by decide +kernel
theorem dX5_ifPut_13 : decode cX5_ifPut 13 = .ok (.invokestatic 83, 3) := by decide +kernel
theorem dX5_ifPut_16 : decode cX5_ifPut 16 = .ok (.ifCond .eq 18, 3) := by decide +kernel
theorem dX5_ifPut_19 : decode cX5_ifPut 19 = .ok (.iload 4, 2) := by decide +kernel
theorem dX5_ifPut_21 : decode cX5_ifPut 21 = .ok (.ifCond .lt 13, 3) := by decide +kernel
theorem dX5_ifPut_24 : decode cX5_ifPut 24 = .ok (.iload 4, 2) := by decide +kernel
theorem dX5_ifPut_26 : decode cX5_ifPut 26 = .ok (.iconst 3, 1) := by decide +kernel
theorem dX5_ifPut_27 : decode cX5_ifPut 27 = .ok (.if_icmp .gt 7, 3) := by decide +kernel
theorem dX5_ifPut_30 : decode cX5_ifPut 30 = .ok (.iconst 1, 1) := by decide +kernel
theorem dX5_ifPut_31 : decode cX5_ifPut 31 = .ok (.goto 4, 3) := by decide +kernel
theorem dX5_ifPut_34 : decode cX5_ifPut 34 = .ok (.iconst 0, 1) := by decide +kernel
theorem dX5_ifPut_35 : decode cX5_ifPut 35 = .ok (.invokestatic 86, 3) := by decide +kernel
theorem dX5_ifPut_38 : decode cX5_ifPut 38 = .ok (.aload_n 0, 1) := by decide +kernel
theorem dX5_ifPut_39 : decode cX5_ifPut 39 = .ok (.invokevirtual 54, 3) := by decide +kernel
theorem dX5_ifPut_42 : decode cX5_ifPut 42 = .ok (.aload_n 0, 1) := by decide +kernel
theorem dX5_ifPut_43 : decode cX5_ifPut 43 = .ok (.getfield 23, 3) := by decide +kernel
theorem dX5_ifPut_46 : decode cX5_ifPut 46 = .ok (.iload_n 1, 1) := by decide +kernel
theorem dX5_ifPut_47 : decode cX5_ifPut 47 = .ok (.iload_n 2, 1) := by decide +kernel
theorem dX5_ifPut_48 : decode cX5_ifPut 48 = .ok (.iload_n 3, 1) := by decide +kernel
theorem dX5_ifPut_49 : decode cX5_ifPut 49 = .ok (.invokestatic 90, 3) := by decide +kernel
theorem dX5_ifPut_52 : decode cX5_ifPut 52 = .ok (.iload_n 3, 1) := by decide +kernel
theorem dX5_ifPut_53 : decode cX5_ifPut 53 = .ok (.invokevirtual 202, 3) := by decide +kernel
theorem dX5_ifPut_56 : decode cX5_ifPut 56 = .ok (.iload 4, 2) := by decide +kernel
theorem dX5_ifPut_58 : decode cX5_ifPut 58 = .ok (.ifCond .ne 29, 3) := by decide +kernel
theorem dX5_ifPut_61 : decode cX5_ifPut 61 = .ok (.aload_n 0, 1) := by decide +kernel
theorem dX5_ifPut_62 : decode cX5_ifPut 62 = .ok (.getfield 23, 3) := by decide +kernel
theorem dX5_ifPut_65 : decode cX5_ifPut 65 = .ok (.iload_n 1, 1) := by decide +kernel
theorem dX5_ifPut_66 : decode cX5_ifPut 66 = .ok (.iload_n 2, 1) := by decide +kernel
theorem dX5_ifPut_67 : decode cX5_ifPut 67 = .ok (.invokevirtual 206, 3) := by decide +kernel
theorem dX5_ifPut_70 : decode cX5_ifPut 70 = .ok (.ifCond .eq 15, 3) := by decide +kernel
theorem dX5_ifPut_73 : decode cX5_ifPut 73 = .ok (.aload_n 0, 1) := by decide +kernel
theorem dX5_ifPut_74 : decode cX5_ifPut 74 = .ok (.getfield 23, 3) := by decide +kernel
theorem dX5_ifPut_77 : decode cX5_ifPut 77 = .ok (.iload_n 1, 1) := by decide +kernel
theorem dX5_ifPut_78 : decode cX5_ifPut 78 = .ok (.iload_n 2, 1) := by decide +kernel
theorem dX5_ifPut_79 : decode cX5_ifPut 79 = .ok (.invokevirtual 209, 3) := by decide +kernel
theorem dX5_ifPut_82 : decode cX5_ifPut 82 = .ok (.goto 4, 3) := by decide +kernel
theorem dX5_ifPut_85 : decode cX5_ifPut 85 = .ok (.iconst (-1), 1) := by decide +kernel
theorem dX5_ifPut_86 : decode cX5_ifPut 86 = .ok (.ireturn, 1) := by decide +kernel
theorem dX5_ifPut_87 : decode cX5_ifPut 87 = .ok (.aload_n 0, 1) := by decide +kernel
theorem dX5_ifPut_88 : decode cX5_ifPut 88 = .ok (.getfield 26, 3) := by decide +kernel
theorem dX5_ifPut_91 : decode cX5_ifPut 91 = .ok (.aload_n 0, 1) := by decide +kernel
theorem dX5_ifPut_92 : decode cX5_ifPut 92 = .ok (.getfield 23, 3) := by decide +kernel
theorem dX5_ifPut_95 : decode cX5_ifPut 95 = .ok (.invokevirtual 160, 3) := by decide +kernel
theorem dX5_ifPut_98 : decode cX5_ifPut 98 = .ok (.iload 4, 2) := by decide +kernel
theorem dX5_ifPut_100 : decode cX5_ifPut 100 = .ok (.iconst 1, 1) := by decide +kernel
theorem dX5_ifPut_101 : decode cX5_ifPut 101 = .ok (.if_icmp .ne 14, 3) := by decide +kernel
theorem dX5_ifPut_104 : decode cX5_ifPut 104 = .ok (.aload_n 0, 1) := by decide +kernel
theorem dX5_ifPut_105 : decode cX5_ifPut 105 = .ok (.getfield 26, 3) := by decide +kernel
theorem dX5_ifPut_108 : decode cX5_ifPut 108 = .ok (.getfield 212, 3) := by decide +kernel
theorem dX5_ifPut_111 : decode cX5_ifPut 111 = .ok (.invokestatic 124, 3) := by decide +kernel
theorem dX5_ifPut_114 : decode cX5_ifPut 114 = .ok (.ireturn, 1) := by decide +kernel
theorem dX5_ifPut_115 : decode cX5_ifPut 115 = .ok (.iload 4, 2) := by decide +kernel
theorem dX5_ifPut_117 : decode cX5_ifPut 117 = .ok (.iconst 2, 1) := by decide +kernel
theorem dX5_ifPut_118 : decode cX5_ifPut 118 = .ok (.if_icmp .ne 11, 3) := by decide +kernel
theorem dX5_ifPut_121 : decode cX5_ifPut 121 = .ok (.aload_n 0, 1) := by decide +kernel
theorem dX5_ifPut_122 : decode cX5_ifPut 122 = .ok (.getfield 26, 3) := by decide +kernel
theorem dX5_ifPut_125 : decode cX5_ifPut 125 = .ok (.getfield 215, 3) := by decide +kernel
theorem dX5_ifPut_128 : decode cX5_ifPut 128 = .ok (.ireturn, 1) := by decide +kernel
theorem dX5_ifPut_129 : decode cX5_ifPut 129 = .ok (.aload_n 0, 1) := by decide +kernel
theorem dX5_ifPut_130 : decode cX5_ifPut 130 = .ok (.getfield 23, 3) := by decide +kernel
theorem dX5_ifPut_133 : decode cX5_ifPut 133 = .ok (.getfield 113, 3) := by decide +kernel
theorem dX5_ifPut_136 : decode cX5_ifPut 136 = .ok (.iconst (-1), 1) := by decide +kernel
theorem dX5_ifPut_137 : decode cX5_ifPut 137 = .ok (.if_icmp .eq 21, 3) := by decide +kernel
theorem dX5_ifPut_140 : decode cX5_ifPut 140 = .ok (.aload_n 0, 1) := by decide +kernel
theorem dX5_ifPut_141 : decode cX5_ifPut 141 = .ok (.getfield 26, 3) := by decide +kernel
theorem dX5_ifPut_144 : decode cX5_ifPut 144 = .ok (.aload_n 0, 1) := by decide +kernel
theorem dX5_ifPut_145 : decode cX5_ifPut 145 = .ok (.getfield 23, 3) := by decide +kernel
theorem dX5_ifPut_148 : decode cX5_ifPut 148 = .ok (.invokevirtual 120, 3) := by decide +kernel
theorem dX5_ifPut_151 : decode cX5_ifPut 151 = .ok (.ifCond .eq 7, 3) := by decide +kernel
theorem dX5_ifPut_154 : decode cX5_ifPut 154 = .ok (.iconst 1, 1) := by decide +kernel
theorem dX5_ifPut_155 : decode cX5_ifPut 155 = .ok (.goto 4, 3) := by decide +kernel
theorem dX5_ifPut_158 : decode cX5_ifPut 158 = .ok (.iconst 0, 1) := by decide +kernel
theorem dX5_ifPut_159 : decode cX5_ifPut 159 = .ok (.invokestatic 124, 3) := by decide +kernel
theorem dX5_ifPut_162 : decode cX5_ifPut 162 = .ok (.ireturn, 1) := by decide +kernel
theorem dX5_solution_0 : decode cX5_solution 0 = .ok (.iload_n 1, 1) := by decide +kernel
theorem dX5_solution_1 : decode cX5_solution 1 = .ok (.ifCond .lt 12, 3) := by decide +kernel
theorem dX5_solution_4 : decode cX5_solution 4 = .ok (.iload_n 1, 1) := by decide +kernel
theorem dX5_solution_5 : decode cX5_solution 5 = .ok (.iconst 2, 1) := by decide +kernel
theorem dX5_solution_6 : decode cX5_solution 6 = .ok (.if_icmp .gt 7, 3) := by decide +kernel
theorem dX5_solution_9 : decode cX5_solution 9 = .ok (.iconst 1, 1) := by decide +kernel
theorem dX5_solution_10 : decode cX5_solution 10 = .ok (.goto 4, 3) := by decide +kernel
theorem dX5_solution_13 : decode cX5_solution 13 = .ok (.iconst 0, 1) := by decide +kernel
theorem dX5_solution_14 : decode cX5_solution 14 = .ok (.invokestatic 86, 3) := by decide +kernel
theorem dX5_solution_17 : decode cX5_solution 17 = .ok (.aload_n 0, 1) := by decide +kernel
theorem dX5_solution_18 : decode cX5_solution 18 = .ok (.invokevirtual 218, 3) := by decide +kernel
theorem dX5_solution_21 : decode cX5_solution 21 = .ok (.iload_n 1, 1) := by decide +kernel
theorem dX5_solution_22 : decode cX5_solution 22 = .ok (.invokestatic 222, 3) := by decide +kernel
theorem dX5_solution_25 : decode cX5_solution 25 = .ok (.ireturn, 1) := by decide +kernel
theorem dX5_culprit_0 : decode cX5_culprit 0 = .ok (.aload_n 0, 1) := by decide +kernel
theorem dX5_culprit_1 : decode cX5_culprit 1 = .ok (.getfield 19, 3) := by decide +kernel
theorem dX5_culprit_4 : decode cX5_culprit 4 = .ok (.getfield 212, 3) := by decide +kernel
theorem dX5_culprit_7 : decode cX5_culprit 7 = .ok (.ifCond .ne 5, 3) := by decide +kernel
theorem dX5_culprit_10 : decode cX5_culprit 10 = .ok (.iconst (-1), 1) := by decide +kernel
theorem dX5_culprit_11 : decode cX5_culprit 11 = .ok (.ireturn, 1) := by decide +kernel
theorem dX5_culprit_12 : decode cX5_culprit 12 = .ok (.iconst 0, 1) := by decide +kernel
theorem dX5_culprit_13 : decode cX5_culprit 13 = .ok (.istore_n 1, 1) := by decide +kernel
theorem dX5_culprit_14 : decode cX5_culprit 14 = .ok (.iload_n 1, 1) := by decide +kernel
theorem dX5_culprit_15 : decode cX5_culprit 15 = .ok (.aload_n 0, 1) := by decide +kernel
theorem dX5_culprit_16 : decode cX5_culprit 16 = .ok (.getfield 12, 3) := by decide +kernel
theorem dX5_culprit_19 : decode cX5_culprit 19 = .ok (.getfield 71, 3) := by decide +kernel
theorem dX5_culprit_22 : decode cX5_culprit 22 = .ok (.if_icmp .ge 30, 3) := by decide +kernel
theorem dX5_culprit_25 : decode cX5_culprit 25 = .ok (.iload_n 1, 1) := by decide +kernel
theorem dX5_culprit_26 : decode cX5_culprit 26 = .ok (.aload_n 0, 1) := by decide +kernel
theorem dX5_culprit_27 : decode cX5_culprit 27 = .ok (.getfield 12, 3) := by decide +kernel
theorem dX5_culprit_30 : decode cX5_culprit 30 = .ok (.getfield 113, 3) := by decide +kernel
theorem dX5_culprit_33 : decode cX5_culprit 33 = .ok (.if_icmp .eq 13, 3) := by decide +kernel
theorem dX5_culprit_36 : decode cX5_culprit 36 = .ok (.aload_n 0, 1) := by decide +kernel
theorem dX5_culprit_37 : decode cX5_culprit 37 = .ok (.iload_n 1, 1) := by decide +kernel
theorem dX5_culprit_38 : decode cX5_culprit 38 = .ok (.invokevirtual 225, 3) := by decide +kernel
theorem dX5_culprit_41 : decode cX5_culprit 41 = .ok (.ifCond .eq 5, 3) := by decide +kernel
theorem dX5_culprit_44 : decode cX5_culprit 44 = .ok (.iload_n 1, 1) := by decide +kernel
theorem dX5_culprit_45 : decode cX5_culprit 45 = .ok (.ireturn, 1) := by decide +kernel
theorem dX5_culprit_46 : decode cX5_culprit 46 = .ok (.iinc 1 1, 3) := by decide +kernel
theorem dX5_culprit_49 : decode cX5_culprit 49 = .ok (.goto (-35), 3) := by decide +kernel
theorem dX5_culprit_52 : decode cX5_culprit 52 = .ok (.iconst (-1), 1) := by decide +kernel
theorem dX5_culprit_53 : decode cX5_culprit 53 = .ok (.ireturn, 1) := by decide +kernel
theorem dX5_turningShare_0 : decode cX5_turningShare 0 = .ok (.aload_n 0, 1) := by decide +kernel
theorem dX5_turningShare_1 : decode cX5_turningShare 1 = .ok (.getfield 12, 3) := by decide +kernel
theorem dX5_turningShare_4 : decode cX5_turningShare 4 = .ok (.getfield 71, 3) := by decide +kernel
theorem dX5_turningShare_7 : decode cX5_turningShare 7 = .ok (.ifCond .ne 5, 3) := by decide +kernel
theorem dX5_turningShare_10 : decode cX5_turningShare 10 = .ok (.dconst 0, 1) := by decide +kernel
theorem dX5_turningShare_11 : decode cX5_turningShare 11 = .ok (.dreturn, 1) := by decide +kernel
theorem dX5_turningShare_12 : decode cX5_turningShare 12 = .ok (.aload_n 0, 1) := by decide +kernel
theorem dX5_turningShare_13 : decode cX5_turningShare 13 = .ok (.getfield 19, 3) := by decide +kernel
theorem dX5_turningShare_16 : decode cX5_turningShare 16 = .ok (.aload_n 0, 1) := by decide +kernel
theorem dX5_turningShare_17 : decode cX5_turningShare 17 = .ok (.getfield 12, 3) := by decide +kernel
theorem dX5_turningShare_20 : decode cX5_turningShare 20 = .ok (.invokevirtual 228, 3) := by decide +kernel
theorem dX5_turningShare_23 : decode cX5_turningShare 23 = .ok (.i2d, 1) := by decide +kernel
theorem dX5_turningShare_24 : decode cX5_turningShare 24 = .ok (.aload_n 0, 1) := by decide +kernel
theorem dX5_turningShare_25 : decode cX5_turningShare 25 = .ok (.getfield 12, 3) := by decide +kernel
theorem dX5_turningShare_28 : decode cX5_turningShare 28 = .ok (.getfield 71, 3) := by decide +kernel
theorem dX5_turningShare_31 : decode cX5_turningShare 31 = .ok (.i2d, 1) := by decide +kernel
theorem dX5_turningShare_32 : decode cX5_turningShare 32 = .ok (.ddiv, 1) := by decide +kernel
theorem dX5_turningShare_33 : decode cX5_turningShare 33 = .ok (.dreturn, 1) := by decide +kernel
theorem dX5_digest_0 : decode cX5_digest 0 = .ok (.ldc2_w 232, 3) := by decide +kernel
theorem dX5_digest_3 : decode cX5_digest 3 = .ok (.lstore_n 1, 1) := by decide +kernel
theorem dX5_digest_4 : decode cX5_digest 4 = .ok (.iconst 0, 1) := by decide +kernel
theorem dX5_digest_5 : decode cX5_digest 5 = .ok (.istore_n 3, 1) := by decide +kernel
theorem dX5_digest_6 : decode cX5_digest 6 = .ok (.iload_n 3, 1) := by decide +kernel
theorem dX5_digest_7 : decode cX5_digest 7 = .ok (.bipush 10, 2) := by decide +kernel
theorem dX5_digest_9 : decode cX5_digest 9 = .ok (.if_icmp .gt 20, 3) := by decide +kernel
theorem dX5_digest_12 : decode cX5_digest 12 = .ok (.lload_n 1, 1) := by decide +kernel
theorem dX5_digest_13 : decode cX5_digest 13 = .ok (.aload_n 0, 1) := by decide +kernel
theorem dX5_digest_14 : decode cX5_digest 14 = .ok (.iload_n 3, 1) := by decide +kernel
theorem dX5_digest_15 : decode cX5_digest 15 = .ok (.invokevirtual 199, 3) := by decide +kernel
theorem dX5_digest_18 : decode cX5_digest 18 = .ok (.i2l, 1) := by decide +kernel
theorem dX5_digest_19 : decode cX5_digest 19 = .ok (.invokestatic 234, 3) := by decide +kernel
theorem dX5_digest_22 : decode cX5_digest 22 = .ok (.lstore_n 1, 1) := by decide +kernel
theorem dX5_digest_23 : decode cX5_digest 23 = .ok (.iinc 3 1, 3) := by decide +kernel
theorem dX5_digest_26 : decode cX5_digest 26 = .ok (.goto (-20), 3) := by decide +kernel
theorem dX5_digest_29 : decode cX5_digest 29 = .ok (.lload_n 1, 1) := by decide +kernel
theorem dX5_digest_30 : decode cX5_digest 30 = .ok (.aload_n 0, 1) := by decide +kernel
theorem dX5_digest_31 : decode cX5_digest 31 = .ok (.getfield 12, 3) := by decide +kernel
theorem dX5_digest_34 : decode cX5_digest 34 = .ok (.getfield 128, 3) := by decide +kernel
theorem dX5_digest_37 : decode cX5_digest 37 = .ok (.i2l, 1) := by decide +kernel
theorem dX5_digest_38 : decode cX5_digest 38 = .ok (.invokestatic 234, 3) := by decide +kernel
theorem dX5_digest_41 : decode cX5_digest 41 = .ok (.lstore_n 1, 1) := by decide +kernel
theorem dX5_digest_42 : decode cX5_digest 42 = .ok (.iconst 0, 1) := by decide +kernel
theorem dX5_digest_43 : decode cX5_digest 43 = .ok (.istore_n 3, 1) := by decide +kernel
theorem dX5_digest_44 : decode cX5_digest 44 = .ok (.iload_n 3, 1) := by decide +kernel
theorem dX5_digest_45 : decode cX5_digest 45 = .ok (.aload_n 0, 1) := by decide +kernel
theorem dX5_digest_46 : decode cX5_digest 46 = .ok (.getfield 12, 3) := by decide +kernel
theorem dX5_digest_49 : decode cX5_digest 49 = .ok (.getfield 71, 3) := by decide +kernel
theorem dX5_digest_52 : decode cX5_digest 52 = .ok (.if_icmp .ge 16, 3) := by decide +kernel
theorem dX5_digest_55 : decode cX5_digest 55 = .ok (.aload_n 0, 1) := by decide +kernel
theorem dX5_digest_56 : decode cX5_digest 56 = .ok (.lload_n 1, 1) := by decide +kernel
theorem dX5_digest_57 : decode cX5_digest 57 = .ok (.iload_n 3, 1) := by decide +kernel
theorem dX5_digest_58 : decode cX5_digest 58 = .ok (.invokevirtual 238, 3) := by decide +kernel
theorem dX5_digest_61 : decode cX5_digest 61 = .ok (.lstore_n 1, 1) := by decide +kernel
theorem dX5_digest_62 : decode cX5_digest 62 = .ok (.iinc 3 1, 3) := by decide +kernel
theorem dX5_digest_65 : decode cX5_digest 65 = .ok (.goto (-21), 3) := by decide +kernel
theorem dX5_digest_68 : decode cX5_digest 68 = .ok (.iconst 0, 1) := by decide +kernel
theorem dX5_digest_69 : decode cX5_digest 69 = .ok (.istore_n 3, 1) := by decide +kernel
theorem dX5_digest_70 : decode cX5_digest 70 = .ok (.iload_n 3, 1) := by decide +kernel
theorem dX5_digest_71 : decode cX5_digest 71 = .ok (.aload_n 0, 1) := by decide +kernel
theorem dX5_digest_72 : decode cX5_digest 72 = .ok (.getfield 12, 3) := by decide +kernel
theorem dX5_digest_75 : decode cX5_digest 75 = .ok (.getfield 71, 3) := by decide +kernel
theorem dX5_digest_78 : decode cX5_digest 78 = .ok (.if_icmp .ge 39, 3) := by decide +kernel
theorem dX5_digest_81 : decode cX5_digest 81 = .ok (.iconst 0, 1) := by decide +kernel
theorem dX5_digest_82 : decode cX5_digest 82 = .ok (.istore 4, 2) := by decide +kernel
theorem dX5_digest_84 : decode cX5_digest 84 = .ok (.iload 4, 2) := by decide +kernel
theorem dX5_digest_86 : decode cX5_digest 86 = .ok (.aload_n 0, 1) := by decide +kernel
theorem dX5_digest_87 : decode cX5_digest 87 = .ok (.getfield 12, 3) := by decide +kernel
theorem dX5_digest_90 : decode cX5_digest 90 = .ok (.getfield 71, 3) := by decide +kernel
theorem dX5_digest_93 : decode cX5_digest 93 = .ok (.if_icmp .ge 18, 3) := by decide +kernel
theorem dX5_digest_96 : decode cX5_digest 96 = .ok (.aload_n 0, 1) := by decide +kernel
theorem dX5_digest_97 : decode cX5_digest 97 = .ok (.lload_n 1, 1) := by decide +kernel
theorem dX5_digest_98 : decode cX5_digest 98 = .ok (.iload_n 3, 1) := by decide +kernel
theorem dX5_digest_99 : decode cX5_digest 99 = .ok (.iload 4, 2) := by decide +kernel
theorem dX5_digest_101 : decode cX5_digest 101 = .ok (.invokevirtual 242, 3) := by decide +kernel
theorem dX5_digest_104 : decode cX5_digest 104 = .ok (.lstore_n 1, 1) := by decide +kernel
theorem dX5_digest_105 : decode cX5_digest 105 = .ok (.iinc 4 1, 3) := by decide +kernel
theorem dX5_digest_108 : decode cX5_digest 108 = .ok (.goto (-24), 3) := by decide +kernel
theorem dX5_digest_111 : decode cX5_digest 111 = .ok (.iinc 3 1, 3) := by decide +kernel
theorem dX5_digest_114 : decode cX5_digest 114 = .ok (.goto (-44), 3) := by decide +kernel
theorem dX5_digest_117 : decode cX5_digest 117 = .ok (.lload_n 1, 1) := by decide +kernel
theorem dX5_digest_118 : decode cX5_digest 118 = .ok (.aload_n 0, 1) := by decide +kernel
theorem dX5_digest_119 : decode cX5_digest 119 = .ok (.invokevirtual 246, 3) := by decide +kernel
theorem dX5_digest_122 : decode cX5_digest 122 = .ok (.invokestatic 234, 3) := by decide +kernel
theorem dX5_digest_125 : decode cX5_digest 125 = .ok (.lstore_n 1, 1) := by decide +kernel
theorem dX5_digest_126 : decode cX5_digest 126 = .ok (.aload_n 0, 1) := by decide +kernel
theorem dX5_digest_127 : decode cX5_digest 127 = .ok (.invokevirtual 218, 3) := by decide +kernel
theorem dX5_digest_130 : decode cX5_digest 130 = .ok (.istore_n 3, 1) := by decide +kernel
theorem dX5_digest_131 : decode cX5_digest 131 = .ok (.iconst 0, 1) := by decide +kernel
theorem dX5_digest_132 : decode cX5_digest 132 = .ok (.istore 4, 2) := by decide +kernel
theorem dX5_digest_134 : decode cX5_digest 134 = .ok (.iload 4, 2) := by decide +kernel
theorem dX5_digest_136 : decode cX5_digest 136 = .ok (.iconst 2, 1) := by decide +kernel
theorem dX5_digest_137 : decode cX5_digest 137 = .ok (.if_icmp .gt 21, 3) := by decide +kernel
theorem dX5_digest_140 : decode cX5_digest 140 = .ok (.lload_n 1, 1) := by decide +kernel
theorem dX5_digest_141 : decode cX5_digest 141 = .ok (.iload_n 3, 1) := by decide +kernel
theorem dX5_digest_142 : decode cX5_digest 142 = .ok (.iload 4, 2) := by decide +kernel
theorem dX5_digest_144 : decode cX5_digest 144 = .ok (.invokestatic 222, 3) := by decide +kernel
theorem dX5_digest_147 : decode cX5_digest 147 = .ok (.i2l, 1) := by decide +kernel
theorem dX5_digest_148 : decode cX5_digest 148 = .ok (.invokestatic 234, 3) := by decide +kernel
theorem dX5_digest_151 : decode cX5_digest 151 = .ok (.lstore_n 1, 1) := by decide +kernel
theorem dX5_digest_152 : decode cX5_digest 152 = .ok (.iinc 4 1, 3) := by decide +kernel
theorem dX5_digest_155 : decode cX5_digest 155 = .ok (.goto (-21), 3) := by decide +kernel
theorem dX5_digest_158 : decode cX5_digest 158 = .ok (.lload_n 1, 1) := by decide +kernel
theorem dX5_digest_159 : decode cX5_digest 159 = .ok (.aload_n 0, 1) := by decide +kernel
theorem dX5_digest_160 : decode cX5_digest 160 = .ok (.invokevirtual 250, 3) := by decide +kernel
theorem dX5_digest_163 : decode cX5_digest 163 = .ok (.i2l, 1) := by decide +kernel
theorem dX5_digest_164 : decode cX5_digest 164 = .ok (.invokestatic 234, 3) := by decide +kernel
theorem dX5_digest_167 : decode cX5_digest 167 = .ok (.lstore_n 1, 1) := by decide +kernel
theorem dX5_digest_168 : decode cX5_digest 168 = .ok (.lload_n 1, 1) := by decide +kernel
theorem dX5_digest_169 : decode cX5_digest 169 = .ok (.aload_n 0, 1) := by decide +kernel
theorem dX5_digest_170 : decode cX5_digest 170 = .ok (.invokevirtual 253, 3) := by decide +kernel
theorem dX5_digest_173 : decode cX5_digest 173 = .ok (.invokestatic 257, 3) := by decide +kernel
theorem dX5_digest_176 : decode cX5_digest 176 = .ok (.invokestatic 234, 3) := by decide +kernel
theorem dX5_digest_179 : decode cX5_digest 179 = .ok (.lstore_n 1, 1) := by decide +kernel
theorem dX5_digest_180 : decode cX5_digest 180 = .ok (.aload_n 0, 1) := by decide +kernel
theorem dX5_digest_181 : decode cX5_digest 181 = .ok (.getfield 39, 3) := by decide +kernel
theorem dX5_digest_184 : decode cX5_digest 184 = .ok (.lload_n 1, 1) := by decide +kernel
theorem dX5_digest_185 : decode cX5_digest 185 = .ok (.invokevirtual 261, 3) := by decide +kernel
theorem dX5_digest_188 : decode cX5_digest 188 = .ok (.lreturn, 1) := by decide +kernel
theorem dX5_needPeg_0 : decode cX5_needPeg 0 = .ok (.aload_n 0, 1) := by decide +kernel
theorem dX5_needPeg_1 : decode cX5_needPeg 1 = .ok (.getfield 12, 3) := by decide +kernel
theorem dX5_needPeg_4 : decode cX5_needPeg 4 = .ok (.iload_n 1, 1) := by decide +kernel
theorem dX5_needPeg_5 : decode cX5_needPeg 5 = .ok (.invokevirtual 265, 3) := by decide +kernel
theorem dX5_needPeg_8 : decode cX5_needPeg 8 = .ok (.ifCond .ne 14, 3) := by decide +kernel
theorem dX5_needPeg_11 : decode cX5_needPeg 11 = .ok (.new 268, 3) := by decide +kernel
theorem dX5_needPeg_14 : decode cX5_needPeg 14 = .ok (.dup, 1) := by decide +kernel
theorem dX5_needPeg_15 : decode cX5_needPeg 15 = .ok (.ldc_w 270, 3) := by decide +kernel
theorem dX5_needPeg_18 : decode cX5_needPeg 18 = .ok (.invokespecial 272, 3) := by decide +kernel
theorem dX5_needPeg_21 : decode cX5_needPeg 21 = .ok (.athrow, 1) := by decide +kernel
theorem dX5_needPeg_22 : decode cX5_needPeg 22 = .ok (.return_, 1) := by decide +kernel
theorem dX5_needPlace_0 : decode cX5_needPlace 0 = .ok (.iload_n 0, 1) := by decide +kernel
theorem dX5_needPlace_1 : decode cX5_needPlace 1 = .ok (.ifCond .lt 23, 3) := by decide +kernel
theorem dX5_needPlace_4 : decode cX5_needPlace 4 = .ok (.iload_n 0, 1) := by decide +kernel
theorem dX5_needPlace_5 : decode cX5_needPlace 5 = .ok (.bipush 60, 2) := by decide +kernel
theorem dX5_needPlace_7 : decode cX5_needPlace 7 = .ok (.if_icmp .gt 17, 3) := by decide +kernel
theorem dX5_needPlace_10 : decode cX5_needPlace 10 = .ok (.iload_n 1, 1) := by decide +kernel
theorem dX5_needPlace_11 : decode cX5_needPlace 11 = .ok (.ifCond .lt 13, 3) := by decide +kernel
theorem dX5_needPlace_14 : decode cX5_needPlace 14 = .ok (.iload_n 1, 1) := by decide +kernel
theorem dX5_needPlace_15 : decode cX5_needPlace 15 = .ok (.bipush 60, 2) := by decide +kernel
theorem dX5_needPlace_17 : decode cX5_needPlace 17 = .ok (.if_icmp .gt 7, 3) := by decide +kernel
theorem dX5_needPlace_20 : decode cX5_needPlace 20 = .ok (.iconst 1, 1) := by decide +kernel
theorem dX5_needPlace_21 : decode cX5_needPlace 21 = .ok (.goto 4, 3) := by decide +kernel
theorem dX5_needPlace_24 : decode cX5_needPlace 24 = .ok (.iconst 0, 1) := by decide +kernel
theorem dX5_needPlace_25 : decode cX5_needPlace 25 = .ok (.invokestatic 86, 3) := by decide +kernel
theorem dX5_needPlace_28 : decode cX5_needPlace 28 = .ok (.return_, 1) := by decide +kernel
theorem dX5_need_0 : decode cX5_need 0 = .ok (.iload_n 0, 1) := by decide +kernel
theorem dX5_need_1 : decode cX5_need 1 = .ok (.ifCond .ne 14, 3) := by decide +kernel
theorem dX5_need_4 : decode cX5_need 4 = .ok (.new 273, 3) := by decide +kernel
theorem dX5_need_7 : decode cX5_need 7 = .ok (.dup, 1) := by decide +kernel
theorem dX5_need_8 : decode cX5_need 8 = .ok (.ldc_w 275, 3) := by decide +kernel
theorem dX5_need_11 : decode cX5_need 11 = .ok (.invokespecial 277, 3) := by decide +kernel
theorem dX5_need_14 : decode cX5_need 14 = .ok (.athrow, 1) := by decide +kernel
theorem dX5_need_15 : decode cX5_need 15 = .ok (.return_, 1) := by decide +kernel
theorem dX5_isLevel_0 : decode cX5_isLevel 0 = .ok (.iload_n 0, 1) := by decide +kernel
theorem dX5_isLevel_1 : decode cX5_isLevel 1 = .ok (.ifCond .lt 12, 3) := by decide +kernel
theorem dX5_isLevel_4 : decode cX5_isLevel 4 = .ok (.iload_n 0, 1) := by decide +kernel
theorem dX5_isLevel_5 : decode cX5_isLevel 5 = .ok (.iconst 2, 1) := by decide +kernel
theorem dX5_isLevel_6 : decode cX5_isLevel 6 = .ok (.if_icmp .ge 7, 3) := by decide +kernel
theorem dX5_isLevel_9 : decode cX5_isLevel 9 = .ok (.iconst 1, 1) := by decide +kernel
theorem dX5_isLevel_10 : decode cX5_isLevel 10 = .ok (.goto 4, 3) := by decide +kernel
theorem dX5_isLevel_13 : decode cX5_isLevel 13 = .ok (.iconst 0, 1) := by decide +kernel
theorem dX5_isLevel_14 : decode cX5_isLevel 14 = .ok (.ireturn, 1) := by decide +kernel
theorem dX5_isGear_0 : decode cX5_isGear 0 = .ok (.iload_n 0, 1) := by decide +kernel
theorem dX5_isGear_1 : decode cX5_isGear 1 = .ok (.ifCond .lt 13, 3) := by decide +kernel
theorem dX5_isGear_4 : decode cX5_isGear 4 = .ok (.iload_n 0, 1) := by decide +kernel
theorem dX5_isGear_5 : decode cX5_isGear 5 = .ok (.bipush 20, 2) := by decide +kernel
theorem dX5_isGear_7 : decode cX5_isGear 7 = .ok (.if_icmp .gt 7, 3) := by decide +kernel
theorem dX5_isGear_10 : decode cX5_isGear 10 = .ok (.iconst 1, 1) := by decide +kernel
theorem dX5_isGear_11 : decode cX5_isGear 11 = .ok (.goto 4, 3) := by decide +kernel
theorem dX5_isGear_14 : decode cX5_isGear 14 = .ok (.iconst 0, 1) := by decide +kernel
theorem dX5_isGear_15 : decode cX5_isGear 15 = .ok (.ireturn, 1) := by decide +kernel
theorem dX5_kindOfGear_0 : decode cX5_kindOfGear 0 = .ok (.iload_n 0, 1) := by decide +kernel
theorem dX5_kindOfGear_1 : decode cX5_kindOfGear 1 = .ok (.ifCond .ne 7, 3) := by decide +kernel
theorem dX5_kindOfGear_4 : decode cX5_kindOfGear 4 = .ok (.iconst 0, 1) := by decide +kernel
theorem dX5_kindOfGear_5 : decode cX5_kindOfGear 5 = .ok (.goto 4, 3) := by decide +kernel
theorem dX5_kindOfGear_8 : decode cX5_kindOfGear 8 = .ok (.iconst 1, 1) := by decide +kernel
theorem dX5_kindOfGear_9 : decode cX5_kindOfGear 9 = .ok (.ireturn, 1) := by decide +kernel
theorem dX5_startTrial_0 : decode cX5_startTrial 0 = .ok (.aload_n 0, 1) := by decide +kernel
theorem dX5_startTrial_1 : decode cX5_startTrial 1 = .ok (.getfield 23, 3) := by decide +kernel
theorem dX5_startTrial_4 : decode cX5_startTrial 4 = .ok (.aload_n 0, 1) := by decide +kernel
theorem dX5_startTrial_5 : decode cX5_startTrial 5 = .ok (.getfield 12, 3) := by decide +kernel
theorem dX5_startTrial_8 : decode cX5_startTrial 8 = .ok (.invokevirtual 278, 3) := by decide +kernel
theorem dX5_startTrial_11 : decode cX5_startTrial 11 = .ok (.return_, 1) := by decide +kernel
theorem dX5_keepTrial_0 : decode cX5_keepTrial 0 = .ok (.aload_n 0, 1) := by decide +kernel
theorem dX5_keepTrial_1 : decode cX5_keepTrial 1 = .ok (.getfield 46, 3) := by decide +kernel
theorem dX5_keepTrial_4 : decode cX5_keepTrial 4 = .ok (.aload_n 0, 1) := by decide +kernel
theorem dX5_keepTrial_5 : decode cX5_keepTrial 5 = .ok (.getfield 12, 3) := by decide +kernel
theorem dX5_keepTrial_8 : decode cX5_keepTrial 8 = .ok (.invokevirtual 281, 3) := by decide +kernel
theorem dX5_keepTrial_11 : decode cX5_keepTrial 11 = .ok (.aload_n 0, 1) := by decide +kernel
theorem dX5_keepTrial_12 : decode cX5_keepTrial 12 = .ok (.getfield 12, 3) := by decide +kernel
theorem dX5_keepTrial_15 : decode cX5_keepTrial 15 = .ok (.aload_n 0, 1) := by decide +kernel
theorem dX5_keepTrial_16 : decode cX5_keepTrial 16 = .ok (.getfield 23, 3) := by decide +kernel
theorem dX5_keepTrial_19 : decode cX5_keepTrial 19 = .ok (.invokevirtual 278, 3) := by decide +kernel
theorem dX5_keepTrial_22 : decode cX5_keepTrial 22 = .ok (.aload_n 0, 1) := by decide +kernel
theorem dX5_keepTrial_23 : decode cX5_keepTrial 23 = .ok (.getfield 19, 3) := by decide +kernel
theorem dX5_keepTrial_26 : decode cX5_keepTrial 26 = .ok (.aload_n 0, 1) := by decide +kernel
theorem dX5_keepTrial_27 : decode cX5_keepTrial 27 = .ok (.getfield 12, 3) := by decide +kernel
theorem dX5_keepTrial_30 : decode cX5_keepTrial 30 = .ok (.invokevirtual 160, 3) := by decide +kernel
theorem dX5_keepTrial_33 : decode cX5_keepTrial 33 = .ok (.return_, 1) := by decide +kernel
theorem dX5_putThing_0 : decode cX5_putThing 0 = .ok (.aload_n 0, 1) := by decide +kernel
theorem dX5_putThing_1 : decode cX5_putThing 1 = .ok (.invokevirtual 54, 3) := by decide +kernel
theorem dX5_putThing_4 : decode cX5_putThing 4 = .ok (.aload_n 0, 1) := by decide +kernel
theorem dX5_putThing_5 : decode cX5_putThing 5 = .ok (.getfield 23, 3) := by decide +kernel
theorem dX5_putThing_8 : decode cX5_putThing 8 = .ok (.iload_n 1, 1) := by decide +kernel
theorem dX5_putThing_9 : decode cX5_putThing 9 = .ok (.iload_n 2, 1) := by decide +kernel
theorem dX5_putThing_10 : decode cX5_putThing 10 = .ok (.iload_n 3, 1) := by decide +kernel
theorem dX5_putThing_11 : decode cX5_putThing 11 = .ok (.iload 4, 2) := by decide +kernel
theorem dX5_putThing_13 : decode cX5_putThing 13 = .ok (.invokevirtual 284, 3) := by decide +kernel
theorem dX5_putThing_16 : decode cX5_putThing 16 = .ok (.ifCond .ne 14, 3) := by decide +kernel
theorem dX5_putThing_19 : decode cX5_putThing 19 = .ok (.new 61, 3) := by decide +kernel
theorem dX5_putThing_22 : decode cX5_putThing 22 = .ok (.dup, 1) := by decide +kernel
theorem dX5_putThing_23 : decode cX5_putThing 23 = .ok (.ldc_w 288, 3) := by decide +kernel
theorem dX5_putThing_26 : decode cX5_putThing 26 = .ok (.invokespecial 65, 3) := by decide +kernel
theorem dX5_putThing_29 : decode cX5_putThing 29 = .ok (.athrow, 1) := by decide +kernel
theorem dX5_putThing_30 : decode cX5_putThing 30 = .ok (.aload_n 0, 1) := by decide +kernel
theorem dX5_putThing_31 : decode cX5_putThing 31 = .ok (.invokevirtual 68, 3) := by decide +kernel
theorem dX5_putThing_34 : decode cX5_putThing 34 = .ok (.aload_n 0, 1) := by decide +kernel
theorem dX5_putThing_35 : decode cX5_putThing 35 = .ok (.getfield 12, 3) := by decide +kernel
theorem dX5_putThing_38 : decode cX5_putThing 38 = .ok (.iload_n 1, 1) := by decide +kernel
theorem dX5_putThing_39 : decode cX5_putThing 39 = .ok (.iload_n 2, 1) := by decide +kernel
theorem dX5_putThing_40 : decode cX5_putThing 40 = .ok (.invokevirtual 209, 3) := by decide +kernel
theorem dX5_putThing_43 : decode cX5_putThing 43 = .ok (.ireturn, 1) := by decide +kernel
theorem dX5_doOrder_0 : decode cX5_doOrder 0 = .ok (.aload_n 0, 1) := by decide +kernel
theorem dX5_doOrder_1 : decode cX5_doOrder 1 = .ok (.getfield 39, 3) := by decide +kernel
theorem dX5_doOrder_4 : decode cX5_doOrder 4 = .ok (.getfield 290, 3) := by decide +kernel
theorem dX5_doOrder_7 : decode cX5_doOrder 7 = .ok (.iload_n 1, 1) := by decide +kernel
theorem dX5_doOrder_8 : decode cX5_doOrder 8 = .ok (.iaload, 1) := by decide +kernel
theorem dX5_doOrder_9 : decode cX5_doOrder 9 = .ok (.istore_n 2, 1) := by decide +kernel
theorem dX5_doOrder_10 : decode cX5_doOrder 10 = .ok (.aload_n 0, 1) := by decide +kernel
theorem dX5_doOrder_11 : decode cX5_doOrder 11 = .ok (.getfield 39, 3) := by decide +kernel
theorem dX5_doOrder_14 : decode cX5_doOrder 14 = .ok (.iload_n 1, 1) := by decide +kernel
theorem dX5_doOrder_15 : decode cX5_doOrder 15 = .ok (.iconst 0, 1) := by decide +kernel
theorem dX5_doOrder_16 : decode cX5_doOrder 16 = .ok (.invokevirtual 294, 3) := by decide +kernel
theorem dX5_doOrder_19 : decode cX5_doOrder 19 = .ok (.istore_n 3, 1) := by decide +kernel
theorem dX5_doOrder_20 : decode cX5_doOrder 20 = .ok (.aload_n 0, 1) := by decide +kernel
theorem dX5_doOrder_21 : decode cX5_doOrder 21 = .ok (.getfield 39, 3) := by decide +kernel
theorem dX5_doOrder_24 : decode cX5_doOrder 24 = .ok (.iload_n 1, 1) := by decide +kernel
theorem dX5_doOrder_25 : decode cX5_doOrder 25 = .ok (.iconst 1, 1) := by decide +kernel
theorem dX5_doOrder_26 : decode cX5_doOrder 26 = .ok (.invokevirtual 294, 3) := by decide +kernel
theorem dX5_doOrder_29 : decode cX5_doOrder 29 = .ok (.istore 4, 2) := by decide +kernel
theorem dX5_doOrder_31 : decode cX5_doOrder 31 = .ok (.aload_n 0, 1) := by decide +kernel
theorem dX5_doOrder_32 : decode cX5_doOrder 32 = .ok (.getfield 39, 3) := by decide +kernel
theorem dX5_doOrder_35 : decode cX5_doOrder 35 = .ok (.iload_n 1, 1) := by decide +kernel
theorem dX5_doOrder_36 : decode cX5_doOrder 36 = .ok (.iconst 2, 1) := by decide +kernel
theorem dX5_doOrder_37 : decode cX5_doOrder 37 = .ok (.invokevirtual 294, 3) := by decide +kernel
theorem dX5_doOrder_40 : decode cX5_doOrder 40 = .ok (.istore 5, 2) := by decide +kernel
theorem dX5_doOrder_42 : decode cX5_doOrder 42 = .ok (.iload_n 2, 1) := by decide +kernel
theorem dX5_doOrder_43 : decode cX5_doOrder 43 = .ok (.bipush 112, 2) := by decide +kernel
theorem dX5_doOrder_45 : decode cX5_doOrder 45 = .ok (.if_icmp .ne 14, 3) := by decide +kernel
theorem dX5_doOrder_48 : decode cX5_doOrder 48 = .ok (.aload_n 0, 1) := by decide +kernel
theorem dX5_doOrder_49 : decode cX5_doOrder 49 = .ok (.getfield 23, 3) := by decide +kernel
theorem dX5_doOrder_52 : decode cX5_doOrder 52 = .ok (.iload_n 3, 1) := by decide +kernel
theorem dX5_doOrder_53 : decode cX5_doOrder 53 = .ok (.iload 4, 2) := by decide +kernel
theorem dX5_doOrder_55 : decode cX5_doOrder 55 = .ok (.invokevirtual 57, 3) := by decide +kernel
theorem dX5_doOrder_58 : decode cX5_doOrder 58 = .ok (.ireturn, 1) := by decide +kernel
theorem dX5_doOrder_59 : decode cX5_doOrder 59 = .ok (.iload_n 2, 1) := by decide +kernel
theorem dX5_doOrder_60 : decode cX5_doOrder 60 = .ok (.bipush 103, 2) := by decide +kernel
theorem dX5_doOrder_62 : decode cX5_doOrder 62 = .ok (.if_icmp .ne 21, 3) := by decide +kernel
theorem dX5_doOrder_65 : decode cX5_doOrder 65 = .ok (.aload_n 0, 1) := by decide +kernel
theorem dX5_doOrder_66 : decode cX5_doOrder 66 = .ok (.getfield 23, 3) := by decide +kernel
theorem dX5_doOrder_69 : decode cX5_doOrder 69 = .ok (.iload_n 3, 1) := by decide +kernel
theorem dX5_doOrder_70 : decode cX5_doOrder 70 = .ok (.iload 4, 2) := by decide +kernel
theorem dX5_doOrder_72 : decode cX5_doOrder 72 = .ok (.iload 5, 2) := by decide +kernel
theorem dX5_doOrder_74 : decode cX5_doOrder 74 = .ok (.invokestatic 90, 3) := by decide +kernel
theorem dX5_doOrder_77 : decode cX5_doOrder 77 = .ok (.iload 5, 2) := by decide +kernel
theorem dX5_doOrder_79 : decode cX5_doOrder 79 = .ok (.invokevirtual 284, 3) := by decide +kernel
theorem dX5_doOrder_82 : decode cX5_doOrder 82 = .ok (.ireturn, 1) := by decide +kernel
theorem dX5_doOrder_83 : decode cX5_doOrder 83 = .ok (.iload_n 2, 1) := by decide +kernel
theorem dX5_doOrder_84 : decode cX5_doOrder 84 = .ok (.bipush 114, 2) := by decide +kernel
theorem dX5_doOrder_86 : decode cX5_doOrder 86 = .ok (.if_icmp .ne 17, 3) := by decide +kernel
theorem dX5_doOrder_89 : decode cX5_doOrder 89 = .ok (.aload_n 0, 1) := by decide +kernel
theorem dX5_doOrder_90 : decode cX5_doOrder 90 = .ok (.getfield 23, 3) := by decide +kernel
theorem dX5_doOrder_93 : decode cX5_doOrder 93 = .ok (.iload_n 3, 1) := by decide +kernel
theorem dX5_doOrder_94 : decode cX5_doOrder 94 = .ok (.iload 4, 2) := by decide +kernel
theorem dX5_doOrder_96 : decode cX5_doOrder 96 = .ok (.iconst 2, 1) := by decide +kernel
theorem dX5_doOrder_97 : decode cX5_doOrder 97 = .ok (.iload 5, 2) := by decide +kernel
theorem dX5_doOrder_99 : decode cX5_doOrder 99 = .ok (.invokevirtual 284, 3) := by decide +kernel
theorem dX5_doOrder_102 : decode cX5_doOrder 102 = .ok (.ireturn, 1) := by decide +kernel
theorem dX5_doOrder_103 : decode cX5_doOrder 103 = .ok (.aload_n 0, 1) := by decide +kernel
theorem dX5_doOrder_104 : decode cX5_doOrder 104 = .ok (.getfield 23, 3) := by decide +kernel
theorem dX5_doOrder_107 : decode cX5_doOrder 107 = .ok (.iload_n 3, 1) := by decide +kernel
theorem dX5_doOrder_108 : decode cX5_doOrder 108 = .ok (.invokevirtual 297, 3) := by decide +kernel
theorem dX5_doOrder_111 : decode cX5_doOrder 111 = .ok (.ireturn, 1) := by decide +kernel
theorem dX5_pegProperty_0 : decode cX5_pegProperty 0 = .ok (.iload_n 2, 1) := by decide +kernel
theorem dX5_pegProperty_1 : decode cX5_pegProperty 1 = .ok (.tableswitch 145 0 7 #[47, 57, 67, 81, 95, 109, 123, 136], 47) := by decide +kernel
theorem dX5_pegProperty_48 : decode cX5_pegProperty 48 = .ok (.aload_n 0, 1) := by decide +kernel
theorem dX5_pegProperty_49 : decode cX5_pegProperty 49 = .ok (.getfield 12, 3) := by decide +kernel
theorem dX5_pegProperty_52 : decode cX5_pegProperty 52 = .ok (.getfield 300, 3) := by decide +kernel
theorem dX5_pegProperty_55 : decode cX5_pegProperty 55 = .ok (.iload_n 1, 1) := by decide +kernel
theorem dX5_pegProperty_56 : decode cX5_pegProperty 56 = .ok (.iaload, 1) := by decide +kernel
theorem dX5_pegProperty_57 : decode cX5_pegProperty 57 = .ok (.ireturn, 1) := by decide +kernel
theorem dX5_pegProperty_58 : decode cX5_pegProperty 58 = .ok (.aload_n 0, 1) := by decide +kernel
theorem dX5_pegProperty_59 : decode cX5_pegProperty 59 = .ok (.getfield 12, 3) := by decide +kernel
theorem dX5_pegProperty_62 : decode cX5_pegProperty 62 = .ok (.getfield 303, 3) := by decide +kernel
theorem dX5_pegProperty_65 : decode cX5_pegProperty 65 = .ok (.iload_n 1, 1) := by decide +kernel
theorem dX5_pegProperty_66 : decode cX5_pegProperty 66 = .ok (.iaload, 1) := by decide +kernel
theorem dX5_pegProperty_67 : decode cX5_pegProperty 67 = .ok (.ireturn, 1) := by decide +kernel
theorem dX5_pegProperty_68 : decode cX5_pegProperty 68 = .ok (.aload_n 0, 1) := by decide +kernel
theorem dX5_pegProperty_69 : decode cX5_pegProperty 69 = .ok (.getfield 12, 3) := by decide +kernel
theorem dX5_pegProperty_72 : decode cX5_pegProperty 72 = .ok (.getfield 306, 3) := by decide +kernel
theorem dX5_pegProperty_75 : decode cX5_pegProperty 75 = .ok (.iload_n 1, 1) := by decide +kernel
theorem dX5_pegProperty_76 : decode cX5_pegProperty 76 = .ok (.iconst 0, 1) := by decide +kernel
theorem dX5_pegProperty_77 : decode cX5_pegProperty 77 = .ok (.invokestatic 309, 3) := by decide +kernel
theorem dX5_pegProperty_80 : decode cX5_pegProperty 80 = .ok (.iaload, 1) := by decide +kernel
theorem dX5_pegProperty_81 : decode cX5_pegProperty 81 = .ok (.ireturn, 1) := by decide +kernel
theorem dX5_pegProperty_82 : decode cX5_pegProperty 82 = .ok (.aload_n 0, 1) := by decide +kernel
theorem dX5_pegProperty_83 : decode cX5_pegProperty 83 = .ok (.getfield 12, 3) := by decide +kernel
theorem dX5_pegProperty_86 : decode cX5_pegProperty 86 = .ok (.getfield 306, 3) := by decide +kernel
theorem dX5_pegProperty_89 : decode cX5_pegProperty 89 = .ok (.iload_n 1, 1) := by decide +kernel
theorem dX5_pegProperty_90 : decode cX5_pegProperty 90 = .ok (.iconst 1, 1) := by decide +kernel
theorem dX5_pegProperty_91 : decode cX5_pegProperty 91 = .ok (.invokestatic 309, 3) := by decide +kernel
theorem dX5_pegProperty_94 : decode cX5_pegProperty 94 = .ok (.iaload, 1) := by decide +kernel
theorem dX5_pegProperty_95 : decode cX5_pegProperty 95 = .ok (.ireturn, 1) := by decide +kernel
theorem dX5_pegProperty_96 : decode cX5_pegProperty 96 = .ok (.aload_n 0, 1) := by decide +kernel
theorem dX5_pegProperty_97 : decode cX5_pegProperty 97 = .ok (.getfield 12, 3) := by decide +kernel
theorem dX5_pegProperty_100 : decode cX5_pegProperty 100 = .ok (.getfield 312, 3) := by decide +kernel
theorem dX5_pegProperty_103 : decode cX5_pegProperty 103 = .ok (.iload_n 1, 1) := by decide +kernel
theorem dX5_pegProperty_104 : decode cX5_pegProperty 104 = .ok (.iconst 0, 1) := by decide +kernel
theorem dX5_pegProperty_105 : decode cX5_pegProperty 105 = .ok (.invokestatic 309, 3) := by decide +kernel
theorem dX5_pegProperty_108 : decode cX5_pegProperty 108 = .ok (.iaload, 1) := by decide +kernel
theorem dX5_pegProperty_109 : decode cX5_pegProperty 109 = .ok (.ireturn, 1) := by decide +kernel
theorem dX5_pegProperty_110 : decode cX5_pegProperty 110 = .ok (.aload_n 0, 1) := by decide +kernel
theorem dX5_pegProperty_111 : decode cX5_pegProperty 111 = .ok (.getfield 12, 3) := by decide +kernel
theorem dX5_pegProperty_114 : decode cX5_pegProperty 114 = .ok (.getfield 312, 3) := by decide +kernel
theorem dX5_pegProperty_117 : decode cX5_pegProperty 117 = .ok (.iload_n 1, 1) := by decide +kernel
theorem dX5_pegProperty_118 : decode cX5_pegProperty 118 = .ok (.iconst 1, 1) := by decide +kernel
theorem dX5_pegProperty_119 : decode cX5_pegProperty 119 = .ok (.invokestatic 309, 3) := by decide +kernel
theorem dX5_pegProperty_122 : decode cX5_pegProperty 122 = .ok (.iaload, 1) := by decide +kernel
theorem dX5_pegProperty_123 : decode cX5_pegProperty 123 = .ok (.ireturn, 1) := by decide +kernel
theorem dX5_pegProperty_124 : decode cX5_pegProperty 124 = .ok (.aload_n 0, 1) := by decide +kernel
theorem dX5_pegProperty_125 : decode cX5_pegProperty 125 = .ok (.getfield 19, 3) := by decide +kernel
theorem dX5_pegProperty_128 : decode cX5_pegProperty 128 = .ok (.aload_n 0, 1) := by decide +kernel
theorem dX5_pegProperty_129 : decode cX5_pegProperty 129 = .ok (.getfield 12, 3) := by decide +kernel
theorem dX5_pegProperty_132 : decode cX5_pegProperty 132 = .ok (.iload_n 1, 1) := by decide +kernel
theorem dX5_pegProperty_133 : decode cX5_pegProperty 133 = .ok (.invokevirtual 104, 3) := by decide +kernel
theorem dX5_pegProperty_136 : decode cX5_pegProperty 136 = .ok (.ireturn, 1) := by decide +kernel
theorem dX5_pegProperty_137 : decode cX5_pegProperty 137 = .ok (.aload_n 0, 1) := by decide +kernel
theorem dX5_pegProperty_138 : decode cX5_pegProperty 138 = .ok (.getfield 19, 3) := by decide +kernel
theorem dX5_pegProperty_141 : decode cX5_pegProperty 141 = .ok (.iload_n 1, 1) := by decide +kernel
theorem dX5_pegProperty_142 : decode cX5_pegProperty 142 = .ok (.invokevirtual 315, 3) := by decide +kernel
theorem dX5_pegProperty_145 : decode cX5_pegProperty 145 = .ok (.ireturn, 1) := by decide +kernel
theorem dX5_pegProperty_146 : decode cX5_pegProperty 146 = .ok (.aload_n 0, 1) := by decide +kernel
theorem dX5_pegProperty_147 : decode cX5_pegProperty 147 = .ok (.getfield 19, 3) := by decide +kernel
theorem dX5_pegProperty_150 : decode cX5_pegProperty 150 = .ok (.getfield 318, 3) := by decide +kernel
theorem dX5_pegProperty_153 : decode cX5_pegProperty 153 = .ok (.iload_n 1, 1) := by decide +kernel
theorem dX5_pegProperty_154 : decode cX5_pegProperty 154 = .ok (.baload, 1) := by decide +kernel
theorem dX5_pegProperty_155 : decode cX5_pegProperty 155 = .ok (.invokestatic 124, 3) := by decide +kernel
theorem dX5_pegProperty_158 : decode cX5_pegProperty 158 = .ok (.ireturn, 1) := by decide +kernel
theorem dX5_rowProperty_0 : decode cX5_rowProperty 0 = .ok (.aload_n 0, 1) := by decide +kernel
theorem dX5_rowProperty_1 : decode cX5_rowProperty 1 = .ok (.getfield 32, 3) := by decide +kernel
theorem dX5_rowProperty_4 : decode cX5_rowProperty 4 = .ok (.getfield 322, 3) := by decide +kernel
theorem dX5_rowProperty_7 : decode cX5_rowProperty 7 = .ok (.ifCond .ne 5, 3) := by decide +kernel
theorem dX5_rowProperty_10 : decode cX5_rowProperty 10 = .ok (.iconst (-1), 1) := by decide +kernel
theorem dX5_rowProperty_11 : decode cX5_rowProperty 11 = .ok (.ireturn, 1) := by decide +kernel
theorem dX5_rowProperty_12 : decode cX5_rowProperty 12 = .ok (.iload_n 1, 1) := by decide +kernel
theorem dX5_rowProperty_13 : decode cX5_rowProperty 13 = .ok (.tableswitch 68 0 2 #[27, 35, 43], 27) := by decide +kernel
theorem dX5_rowProperty_40 : decode cX5_rowProperty 40 = .ok (.aload_n 0, 1) := by decide +kernel
theorem dX5_rowProperty_41 : decode cX5_rowProperty 41 = .ok (.getfield 32, 3) := by decide +kernel
theorem dX5_rowProperty_44 : decode cX5_rowProperty 44 = .ok (.getfield 322, 3) := by decide +kernel
theorem dX5_rowProperty_47 : decode cX5_rowProperty 47 = .ok (.ireturn, 1) := by decide +kernel
theorem dX5_rowProperty_48 : decode cX5_rowProperty 48 = .ok (.aload_n 0, 1) := by decide +kernel
theorem dX5_rowProperty_49 : decode cX5_rowProperty 49 = .ok (.getfield 32, 3) := by decide +kernel
theorem dX5_rowProperty_52 : decode cX5_rowProperty 52 = .ok (.getfield 323, 3) := by decide +kernel
theorem dX5_rowProperty_55 : decode cX5_rowProperty 55 = .ok (.ireturn, 1) := by decide +kernel
theorem dX5_rowProperty_56 : decode cX5_rowProperty 56 = .ok (.aload_n 0, 1) := by decide +kernel
theorem dX5_rowProperty_57 : decode cX5_rowProperty 57 = .ok (.getfield 32, 3) := by decide +kernel
theorem dX5_rowProperty_60 : decode cX5_rowProperty 60 = .ok (.getfield 322, 3) := by decide +kernel
theorem dX5_rowProperty_63 : decode cX5_rowProperty 63 = .ok (.iconst 1, 1) := by decide +kernel
theorem dX5_rowProperty_64 : decode cX5_rowProperty 64 = .ok (.if_icmp .le 15, 3) := by decide +kernel
theorem dX5_rowProperty_67 : decode cX5_rowProperty 67 = .ok (.aload_n 0, 1) := by decide +kernel
theorem dX5_rowProperty_68 : decode cX5_rowProperty 68 = .ok (.getfield 32, 3) := by decide +kernel
theorem dX5_rowProperty_71 : decode cX5_rowProperty 71 = .ok (.getfield 326, 3) := by decide +kernel
theorem dX5_rowProperty_74 : decode cX5_rowProperty 74 = .ok (.iconst 1, 1) := by decide +kernel
theorem dX5_rowProperty_75 : decode cX5_rowProperty 75 = .ok (.iaload, 1) := by decide +kernel
theorem dX5_rowProperty_76 : decode cX5_rowProperty 76 = .ok (.goto 4, 3) := by decide +kernel
theorem dX5_rowProperty_79 : decode cX5_rowProperty 79 = .ok (.iconst (-1), 1) := by decide +kernel
theorem dX5_rowProperty_80 : decode cX5_rowProperty 80 = .ok (.ireturn, 1) := by decide +kernel
theorem dX5_rowProperty_81 : decode cX5_rowProperty 81 = .ok (.aload_n 0, 1) := by decide +kernel
theorem dX5_rowProperty_82 : decode cX5_rowProperty 82 = .ok (.getfield 32, 3) := by decide +kernel
theorem dX5_rowProperty_85 : decode cX5_rowProperty 85 = .ok (.getfield 188, 3) := by decide +kernel
theorem dX5_rowProperty_88 : decode cX5_rowProperty 88 = .ok (.lconst 0, 1) := by decide +kernel
theorem dX5_rowProperty_89 : decode cX5_rowProperty 89 = .ok (.lcmp, 1) := by decide +kernel
theorem dX5_rowProperty_90 : decode cX5_rowProperty 90 = .ok (.ifCond .ge 7, 3) := by decide +kernel
theorem dX5_rowProperty_93 : decode cX5_rowProperty 93 = .ok (.iconst 1, 1) := by decide +kernel
theorem dX5_rowProperty_94 : decode cX5_rowProperty 94 = .ok (.goto 4, 3) := by decide +kernel
theorem dX5_rowProperty_97 : decode cX5_rowProperty 97 = .ok (.iconst 0, 1) := by decide +kernel
theorem dX5_rowProperty_98 : decode cX5_rowProperty 98 = .ok (.invokestatic 124, 3) := by decide +kernel
theorem dX5_rowProperty_101 : decode cX5_rowProperty 101 = .ok (.ireturn, 1) := by decide +kernel
theorem dX5_countOf_0 : decode cX5_countOf 0 = .ok (.iload_n 1, 1) := by decide +kernel
theorem dX5_countOf_1 : decode cX5_countOf 1 = .ok (.tableswitch 151 0 9 #[55, 63, 72, 81, 93, 101, 109, 120, 128, 143], 55) := by decide +kernel
theorem dX5_countOf_56 : decode cX5_countOf 56 = .ok (.aload_n 0, 1) := by decide +kernel
theorem dX5_countOf_57 : decode cX5_countOf 57 = .ok (.getfield 12, 3) := by decide +kernel
theorem dX5_countOf_60 : decode cX5_countOf 60 = .ok (.getfield 71, 3) := by decide +kernel
theorem dX5_countOf_63 : decode cX5_countOf 63 = .ok (.ireturn, 1) := by decide +kernel
theorem dX5_countOf_64 : decode cX5_countOf 64 = .ok (.aload_n 0, 1) := by decide +kernel
theorem dX5_countOf_65 : decode cX5_countOf 65 = .ok (.getfield 12, 3) := by decide +kernel
theorem dX5_countOf_68 : decode cX5_countOf 68 = .ok (.iconst 1, 1) := by decide +kernel
theorem dX5_countOf_69 : decode cX5_countOf 69 = .ok (.invokevirtual 328, 3) := by decide +kernel
theorem dX5_countOf_72 : decode cX5_countOf 72 = .ok (.ireturn, 1) := by decide +kernel
theorem dX5_countOf_73 : decode cX5_countOf 73 = .ok (.aload_n 0, 1) := by decide +kernel
theorem dX5_countOf_74 : decode cX5_countOf 74 = .ok (.getfield 12, 3) := by decide +kernel
theorem dX5_countOf_77 : decode cX5_countOf 77 = .ok (.iconst 2, 1) := by decide +kernel
theorem dX5_countOf_78 : decode cX5_countOf 78 = .ok (.invokevirtual 328, 3) := by decide +kernel
theorem dX5_countOf_81 : decode cX5_countOf 81 = .ok (.ireturn, 1) := by decide +kernel
theorem dX5_countOf_82 : decode cX5_countOf 82 = .ok (.aload_n 0, 1) := by decide +kernel
theorem dX5_countOf_83 : decode cX5_countOf 83 = .ok (.getfield 19, 3) := by decide +kernel
theorem dX5_countOf_86 : decode cX5_countOf 86 = .ok (.aload_n 0, 1) := by decide +kernel
theorem dX5_countOf_87 : decode cX5_countOf 87 = .ok (.getfield 12, 3) := by decide +kernel
theorem dX5_countOf_90 : decode cX5_countOf 90 = .ok (.invokevirtual 331, 3) := by decide +kernel
theorem dX5_countOf_93 : decode cX5_countOf 93 = .ok (.ireturn, 1) := by decide +kernel
theorem dX5_countOf_94 : decode cX5_countOf 94 = .ok (.aload_n 0, 1) := by decide +kernel
theorem dX5_countOf_95 : decode cX5_countOf 95 = .ok (.getfield 12, 3) := by decide +kernel
theorem dX5_countOf_98 : decode cX5_countOf 98 = .ok (.getfield 113, 3) := by decide +kernel
theorem dX5_countOf_101 : decode cX5_countOf 101 = .ok (.ireturn, 1) := by decide +kernel
theorem dX5_countOf_102 : decode cX5_countOf 102 = .ok (.aload_n 0, 1) := by decide +kernel
theorem dX5_countOf_103 : decode cX5_countOf 103 = .ok (.getfield 19, 3) := by decide +kernel
theorem dX5_countOf_106 : decode cX5_countOf 106 = .ok (.getfield 215, 3) := by decide +kernel
theorem dX5_countOf_109 : decode cX5_countOf 109 = .ok (.ireturn, 1) := by decide +kernel
theorem dX5_countOf_110 : decode cX5_countOf 110 = .ok (.aload_n 0, 1) := by decide +kernel
theorem dX5_countOf_111 : decode cX5_countOf 111 = .ok (.getfield 19, 3) := by decide +kernel
theorem dX5_countOf_114 : decode cX5_countOf 114 = .ok (.getfield 212, 3) := by decide +kernel
theorem dX5_countOf_117 : decode cX5_countOf 117 = .ok (.invokestatic 124, 3) := by decide +kernel
theorem dX5_countOf_120 : decode cX5_countOf 120 = .ok (.ireturn, 1) := by decide +kernel
theorem dX5_countOf_121 : decode cX5_countOf 121 = .ok (.aload_n 0, 1) := by decide +kernel
theorem dX5_countOf_122 : decode cX5_countOf 122 = .ok (.getfield 12, 3) := by decide +kernel
theorem dX5_countOf_125 : decode cX5_countOf 125 = .ok (.getfield 334, 3) := by decide +kernel
theorem dX5_countOf_128 : decode cX5_countOf 128 = .ok (.ireturn, 1) := by decide +kernel
theorem dX5_countOf_129 : decode cX5_countOf 129 = .ok (.aload_n 0, 1) := by decide +kernel
theorem dX5_countOf_130 : decode cX5_countOf 130 = .ok (.getfield 19, 3) := by decide +kernel
theorem dX5_countOf_133 : decode cX5_countOf 133 = .ok (.aload_n 0, 1) := by decide +kernel
theorem dX5_countOf_134 : decode cX5_countOf 134 = .ok (.getfield 12, 3) := by decide +kernel
theorem dX5_countOf_137 : decode cX5_countOf 137 = .ok (.invokevirtual 120, 3) := by decide +kernel
theorem dX5_countOf_140 : decode cX5_countOf 140 = .ok (.invokestatic 124, 3) := by decide +kernel
theorem dX5_countOf_143 : decode cX5_countOf 143 = .ok (.ireturn, 1) := by decide +kernel
theorem dX5_countOf_144 : decode cX5_countOf 144 = .ok (.aload_n 0, 1) := by decide +kernel
theorem dX5_countOf_145 : decode cX5_countOf 145 = .ok (.getfield 12, 3) := by decide +kernel
theorem dX5_countOf_148 : decode cX5_countOf 148 = .ok (.invokevirtual 337, 3) := by decide +kernel
theorem dX5_countOf_151 : decode cX5_countOf 151 = .ok (.ireturn, 1) := by decide +kernel
theorem dX5_countOf_152 : decode cX5_countOf 152 = .ok (.aload_n 0, 1) := by decide +kernel
theorem dX5_countOf_153 : decode cX5_countOf 153 = .ok (.getfield 46, 3) := by decide +kernel
theorem dX5_countOf_156 : decode cX5_countOf 156 = .ok (.getfield 164, 3) := by decide +kernel
theorem dX5_countOf_159 : decode cX5_countOf 159 = .ok (.ireturn, 1) := by decide +kernel
theorem dX5_findChange_0 : decode cX5_findChange 0 = .ok (.aload_n 0, 1) := by decide +kernel
theorem dX5_findChange_1 : decode cX5_findChange 1 = .ok (.getfield 12, 3) := by decide +kernel
theorem dX5_findChange_4 : decode cX5_findChange 4 = .ok (.getfield 334, 3) := by decide +kernel
theorem dX5_findChange_7 : decode cX5_findChange 7 = .ok (.iconst (-1), 1) := by decide +kernel
theorem dX5_findChange_8 : decode cX5_findChange 8 = .ok (.if_icmp .eq 17, 3) := by decide +kernel
theorem dX5_findChange_11 : decode cX5_findChange 11 = .ok (.aload_n 0, 1) := by decide +kernel
theorem dX5_findChange_12 : decode cX5_findChange 12 = .ok (.getfield 19, 3) := by decide +kernel
theorem dX5_findChange_15 : decode cX5_findChange 15 = .ok (.aload_n 0, 1) := by decide +kernel
theorem dX5_findChange_16 : decode cX5_findChange 16 = .ok (.getfield 12, 3) := by decide +kernel
theorem dX5_findChange_19 : decode cX5_findChange 19 = .ok (.invokevirtual 120, 3) := by decide +kernel
theorem dX5_findChange_22 : decode cX5_findChange 22 = .ok (.ifCond .eq 5, 3) := by decide +kernel
theorem dX5_findChange_25 : decode cX5_findChange 25 = .ok (.iconst (-1), 1) := by decide +kernel
theorem dX5_findChange_26 : decode cX5_findChange 26 = .ok (.ireturn, 1) := by decide +kernel
theorem dX5_findChange_27 : decode cX5_findChange 27 = .ok (.aload_n 0, 1) := by decide +kernel
theorem dX5_findChange_28 : decode cX5_findChange 28 = .ok (.invokevirtual 54, 3) := by decide +kernel
theorem dX5_findChange_31 : decode cX5_findChange 31 = .ok (.aload_n 0, 1) := by decide +kernel
theorem dX5_findChange_32 : decode cX5_findChange 32 = .ok (.getfield 12, 3) := by decide +kernel
theorem dX5_findChange_35 : decode cX5_findChange 35 = .ok (.getfield 71, 3) := by decide +kernel
theorem dX5_findChange_38 : decode cX5_findChange 38 = .ok (.iconst 2, 1) := by decide +kernel
theorem dX5_findChange_39 : decode cX5_findChange 39 = .ok (.imul, 1) := by decide +kernel
theorem dX5_findChange_40 : decode cX5_findChange 40 = .ok (.bipush 21, 2) := by decide +kernel
theorem dX5_findChange_42 : decode cX5_findChange 42 = .ok (.imul, 1) := by decide +kernel
theorem dX5_findChange_43 : decode cX5_findChange 43 = .ok (.istore_n 1, 1) := by decide +kernel
theorem dX5_findChange_44 : decode cX5_findChange 44 = .ok (.iconst 0, 1) := by decide +kernel
theorem dX5_findChange_45 : decode cX5_findChange 45 = .ok (.istore_n 2, 1) := by decide +kernel
theorem dX5_findChange_46 : decode cX5_findChange 46 = .ok (.iload_n 2, 1) := by decide +kernel
theorem dX5_findChange_47 : decode cX5_findChange 47 = .ok (.iload_n 1, 1) := by decide +kernel
theorem dX5_findChange_48 : decode cX5_findChange 48 = .ok (.if_icmp .ge 19, 3) := by decide +kernel
theorem dX5_findChange_51 : decode cX5_findChange 51 = .ok (.aload_n 0, 1) := by decide +kernel
theorem dX5_findChange_52 : decode cX5_findChange 52 = .ok (.iload_n 2, 1) := by decide +kernel
theorem dX5_findChange_53 : decode cX5_findChange 53 = .ok (.invokevirtual 340, 3) := by decide +kernel
theorem dX5_findChange_56 : decode cX5_findChange 56 = .ok (.ifCond .eq 5, 3) := by decide +kernel
theorem dX5_findChange_59 : decode cX5_findChange 59 = .ok (.iload_n 2, 1) := by decide +kernel
theorem dX5_findChange_60 : decode cX5_findChange 60 = .ok (.ireturn, 1) := by decide +kernel
theorem dX5_findChange_61 : decode cX5_findChange 61 = .ok (.iinc 2 1, 3) := by decide +kernel
theorem dX5_findChange_64 : decode cX5_findChange 64 = .ok (.goto (-18), 3) := by decide +kernel
theorem dX5_findChange_67 : decode cX5_findChange 67 = .ok (.iconst (-1), 1) := by decide +kernel
theorem dX5_findChange_68 : decode cX5_findChange 68 = .ok (.ireturn, 1) := by decide +kernel
theorem dX5_changeReachesGoal_0 : decode cX5_changeReachesGoal 0 = .ok (.iload_n 1, 1) := by decide +kernel
theorem dX5_changeReachesGoal_1 : decode cX5_changeReachesGoal 1 = .ok (.iconst 0, 1) := by decide +kernel
theorem dX5_changeReachesGoal_2 : decode cX5_changeReachesGoal 2 = .ok (.invokestatic 222, 3) := by decide +kernel
theorem dX5_changeReachesGoal_5 : decode cX5_changeReachesGoal 5 = .ok (.istore_n 2, 1) := by decide +kernel
theorem dX5_changeReachesGoal_6 : decode cX5_changeReachesGoal 6 = .ok (.iload_n 1, 1) := by decide +kernel
theorem dX5_changeReachesGoal_7 : decode cX5_changeReachesGoal 7 = .ok (.iconst 1, 1) := by decide +kernel
theorem dX5_changeReachesGoal_8 : decode cX5_changeReachesGoal 8 = .ok (.invokestatic 222, 3) := by decide +kernel
theorem dX5_changeReachesGoal_11 : decode cX5_changeReachesGoal 11 = .ok (.istore_n 3, 1) := by decide +kernel
theorem dX5_changeReachesGoal_12 : decode cX5_changeReachesGoal 12 = .ok (.iload_n 1, 1) := by decide +kernel
theorem dX5_changeReachesGoal_13 : decode cX5_changeReachesGoal 13 = .ok (.iconst 2, 1) := by decide +kernel
theorem dX5_changeReachesGoal_14 : decode cX5_changeReachesGoal 14 = .ok (.invokestatic 222, 3) := by decide +kernel
theorem dX5_changeReachesGoal_17 : decode cX5_changeReachesGoal 17 = .ok (.istore 4, 2) := by decide +kernel
theorem dX5_changeReachesGoal_19 : decode cX5_changeReachesGoal 19 = .ok (.aload_n 0, 1) := by decide +kernel
theorem dX5_changeReachesGoal_20 : decode cX5_changeReachesGoal 20 = .ok (.getfield 23, 3) := by decide +kernel
theorem dX5_changeReachesGoal_23 : decode cX5_changeReachesGoal 23 = .ok (.iload_n 2, 1) := by decide +kernel
theorem dX5_changeReachesGoal_24 : decode cX5_changeReachesGoal 24 = .ok (.iload_n 3, 1) := by decide +kernel
theorem dX5_changeReachesGoal_25 : decode cX5_changeReachesGoal 25 = .ok (.iload 4, 2) := by decide +kernel
theorem dX5_changeReachesGoal_27 : decode cX5_changeReachesGoal 27 = .ok (.invokestatic 90, 3) := by decide +kernel
theorem dX5_changeReachesGoal_30 : decode cX5_changeReachesGoal 30 = .ok (.iload 4, 2) := by decide +kernel
theorem dX5_changeReachesGoal_32 : decode cX5_changeReachesGoal 32 = .ok (.invokevirtual 202, 3) := by decide +kernel
theorem dX5_changeReachesGoal_35 : decode cX5_changeReachesGoal 35 = .ok (.aload_n 0, 1) := by decide +kernel
theorem dX5_changeReachesGoal_36 : decode cX5_changeReachesGoal 36 = .ok (.getfield 23, 3) := by decide +kernel
theorem dX5_changeReachesGoal_39 : decode cX5_changeReachesGoal 39 = .ok (.iload_n 2, 1) := by decide +kernel
theorem dX5_changeReachesGoal_40 : decode cX5_changeReachesGoal 40 = .ok (.iload_n 3, 1) := by decide +kernel
theorem dX5_changeReachesGoal_41 : decode cX5_changeReachesGoal 41 = .ok (.invokevirtual 206, 3) := by decide +kernel
theorem dX5_changeReachesGoal_44 : decode cX5_changeReachesGoal 44 = .ok (.istore 5, 2) := by decide +kernel
theorem dX5_changeReachesGoal_46 : decode cX5_changeReachesGoal 46 = .ok (.iload 5, 2) := by decide +kernel
theorem dX5_changeReachesGoal_48 : decode cX5_changeReachesGoal 48 = .ok (.ifCond .eq 27, 3) := by decide +kernel
theorem dX5_changeReachesGoal_51 : decode cX5_changeReachesGoal 51 = .ok (.aload_n 0, 1) := by decide +kernel
theorem dX5_changeReachesGoal_52 : decode cX5_changeReachesGoal 52 = .ok (.getfield 26, 3) := by decide +kernel
theorem dX5_changeReachesGoal_55 : decode cX5_changeReachesGoal 55 = .ok (.aload_n 0, 1) := by decide +kernel
theorem dX5_changeReachesGoal_56 : decode cX5_changeReachesGoal 56 = .ok (.getfield 23, 3) := by decide +kernel
theorem dX5_changeReachesGoal_59 : decode cX5_changeReachesGoal 59 = .ok (.invokevirtual 160, 3) := by decide +kernel
theorem dX5_changeReachesGoal_62 : decode cX5_changeReachesGoal 62 = .ok (.aload_n 0, 1) := by decide +kernel
theorem dX5_changeReachesGoal_63 : decode cX5_changeReachesGoal 63 = .ok (.getfield 26, 3) := by decide +kernel
theorem dX5_changeReachesGoal_66 : decode cX5_changeReachesGoal 66 = .ok (.aload_n 0, 1) := by decide +kernel
theorem dX5_changeReachesGoal_67 : decode cX5_changeReachesGoal 67 = .ok (.getfield 23, 3) := by decide +kernel
theorem dX5_changeReachesGoal_70 : decode cX5_changeReachesGoal 70 = .ok (.invokevirtual 120, 3) := by decide +kernel
theorem dX5_changeReachesGoal_73 : decode cX5_changeReachesGoal 73 = .ok (.istore 5, 2) := by decide +kernel
theorem dX5_changeReachesGoal_75 : decode cX5_changeReachesGoal 75 = .ok (.iload_n 2, 1) := by decide +kernel
theorem dX5_changeReachesGoal_76 : decode cX5_changeReachesGoal 76 = .ok (.iload_n 3, 1) := by decide +kernel
theorem dX5_changeReachesGoal_77 : decode cX5_changeReachesGoal 77 = .ok (.invokestatic 309, 3) := by decide +kernel
theorem dX5_changeReachesGoal_80 : decode cX5_changeReachesGoal 80 = .ok (.istore 6, 2) := by decide +kernel
theorem dX5_changeReachesGoal_82 : decode cX5_changeReachesGoal 82 = .ok (.aload_n 0, 1) := by decide +kernel
theorem dX5_changeReachesGoal_83 : decode cX5_changeReachesGoal 83 = .ok (.getfield 23, 3) := by decide +kernel
theorem dX5_changeReachesGoal_86 : decode cX5_changeReachesGoal 86 = .ok (.iload_n 2, 1) := by decide +kernel
theorem dX5_changeReachesGoal_87 : decode cX5_changeReachesGoal 87 = .ok (.iload_n 3, 1) := by decide +kernel
theorem dX5_changeReachesGoal_88 : decode cX5_changeReachesGoal 88 = .ok (.aload_n 0, 1) := by decide +kernel
theorem dX5_changeReachesGoal_89 : decode cX5_changeReachesGoal 89 = .ok (.getfield 12, 3) := by decide +kernel
theorem dX5_changeReachesGoal_92 : decode cX5_changeReachesGoal 92 = .ok (.getfield 312, 3) := by decide +kernel
theorem dX5_changeReachesGoal_95 : decode cX5_changeReachesGoal 95 = .ok (.iload 6, 2) := by decide +kernel
theorem dX5_changeReachesGoal_97 : decode cX5_changeReachesGoal 97 = .ok (.iaload, 1) := by decide +kernel
theorem dX5_changeReachesGoal_98 : decode cX5_changeReachesGoal 98 = .ok (.aload_n 0, 1) := by decide +kernel
theorem dX5_changeReachesGoal_99 : decode cX5_changeReachesGoal 99 = .ok (.getfield 12, 3) := by decide +kernel
theorem dX5_changeReachesGoal_102 : decode cX5_changeReachesGoal 102 = .ok (.getfield 306, 3) := by decide +kernel
theorem dX5_changeReachesGoal_105 : decode cX5_changeReachesGoal 105 = .ok (.iload 6, 2) := by decide +kernel
theorem dX5_changeReachesGoal_107 : decode cX5_changeReachesGoal 107 = .ok (.iaload, 1) := by decide +kernel
theorem dX5_changeReachesGoal_108 : decode cX5_changeReachesGoal 108 = .ok (.invokevirtual 202, 3) := by decide +kernel
theorem dX5_changeReachesGoal_111 : decode cX5_changeReachesGoal 111 = .ok (.iload 5, 2) := by decide +kernel
theorem dX5_changeReachesGoal_113 : decode cX5_changeReachesGoal 113 = .ok (.ireturn, 1) := by decide +kernel
theorem dX5_partOfChange_0 : decode cX5_partOfChange 0 = .ok (.iload_n 0, 1) := by decide +kernel
theorem dX5_partOfChange_1 : decode cX5_partOfChange 1 = .ok (.iconst (-1), 1) := by decide +kernel
theorem dX5_partOfChange_2 : decode cX5_partOfChange 2 = .ok (.if_icmp .ne 5, 3) := by decide +kernel
theorem dX5_partOfChange_5 : decode cX5_partOfChange 5 = .ok (.iconst (-1), 1) := by decide +kernel
theorem dX5_partOfChange_6 : decode cX5_partOfChange 6 = .ok (.ireturn, 1) := by decide +kernel
theorem dX5_partOfChange_7 : decode cX5_partOfChange 7 = .ok (.iload_n 0, 1) := by decide +kernel
theorem dX5_partOfChange_8 : decode cX5_partOfChange 8 = .ok (.bipush 21, 2) := by decide +kernel
theorem dX5_partOfChange_10 : decode cX5_partOfChange 10 = .ok (.idiv, 1) := by decide +kernel
theorem dX5_partOfChange_11 : decode cX5_partOfChange 11 = .ok (.istore_n 2, 1) := by decide +kernel
theorem dX5_partOfChange_12 : decode cX5_partOfChange 12 = .ok (.iload_n 1, 1) := by decide +kernel
theorem dX5_partOfChange_13 : decode cX5_partOfChange 13 = .ok (.lookupswitch 35 #[(0, 27), (1, 31)], 27) := by decide +kernel
theorem dX5_partOfChange_40 : decode cX5_partOfChange 40 = .ok (.iload_n 2, 1) := by decide +kernel
theorem dX5_partOfChange_41 : decode cX5_partOfChange 41 = .ok (.iconst 2, 1) := by decide +kernel
theorem dX5_partOfChange_42 : decode cX5_partOfChange 42 = .ok (.idiv, 1) := by decide +kernel
theorem dX5_partOfChange_43 : decode cX5_partOfChange 43 = .ok (.ireturn, 1) := by decide +kernel
theorem dX5_partOfChange_44 : decode cX5_partOfChange 44 = .ok (.iload_n 2, 1) := by decide +kernel
theorem dX5_partOfChange_45 : decode cX5_partOfChange 45 = .ok (.iconst 2, 1) := by decide +kernel
theorem dX5_partOfChange_46 : decode cX5_partOfChange 46 = .ok (.irem, 1) := by decide +kernel
theorem dX5_partOfChange_47 : decode cX5_partOfChange 47 = .ok (.ireturn, 1) := by decide +kernel
theorem dX5_partOfChange_48 : decode cX5_partOfChange 48 = .ok (.iload_n 0, 1) := by decide +kernel
theorem dX5_partOfChange_49 : decode cX5_partOfChange 49 = .ok (.bipush 21, 2) := by decide +kernel
theorem dX5_partOfChange_51 : decode cX5_partOfChange 51 = .ok (.irem, 1) := by decide +kernel
theorem dX5_partOfChange_52 : decode cX5_partOfChange 52 = .ok (.ireturn, 1) := by decide +kernel
theorem dX5_freesJam_0 : decode cX5_freesJam 0 = .ok (.aload_n 0, 1) := by decide +kernel
theorem dX5_freesJam_1 : decode cX5_freesJam 1 = .ok (.invokevirtual 54, 3) := by decide +kernel
theorem dX5_freesJam_4 : decode cX5_freesJam 4 = .ok (.iconst 0, 1) := by decide +kernel
theorem dX5_freesJam_5 : decode cX5_freesJam 5 = .ok (.istore_n 2, 1) := by decide +kernel
theorem dX5_freesJam_6 : decode cX5_freesJam 6 = .ok (.iload_n 2, 1) := by decide +kernel
theorem dX5_freesJam_7 : decode cX5_freesJam 7 = .ok (.iconst 2, 1) := by decide +kernel
theorem dX5_freesJam_8 : decode cX5_freesJam 8 = .ok (.if_icmp .ge 20, 3) := by decide +kernel
theorem dX5_freesJam_11 : decode cX5_freesJam 11 = .ok (.aload_n 0, 1) := by decide +kernel
theorem dX5_freesJam_12 : decode cX5_freesJam 12 = .ok (.getfield 23, 3) := by decide +kernel
theorem dX5_freesJam_15 : decode cX5_freesJam 15 = .ok (.iload_n 1, 1) := by decide +kernel
theorem dX5_freesJam_16 : decode cX5_freesJam 16 = .ok (.iload_n 2, 1) := by decide +kernel
theorem dX5_freesJam_17 : decode cX5_freesJam 17 = .ok (.iconst 0, 1) := by decide +kernel
theorem dX5_freesJam_18 : decode cX5_freesJam 18 = .ok (.iconst 0, 1) := by decide +kernel
theorem dX5_freesJam_19 : decode cX5_freesJam 19 = .ok (.invokevirtual 202, 3) := by decide +kernel
theorem dX5_freesJam_22 : decode cX5_freesJam 22 = .ok (.iinc 2 1, 3) := by decide +kernel
theorem dX5_freesJam_25 : decode cX5_freesJam 25 = .ok (.goto (-19), 3) := by decide +kernel
theorem dX5_freesJam_28 : decode cX5_freesJam 28 = .ok (.aload_n 0, 1) := by decide +kernel
theorem dX5_freesJam_29 : decode cX5_freesJam 29 = .ok (.getfield 26, 3) := by decide +kernel
theorem dX5_freesJam_32 : decode cX5_freesJam 32 = .ok (.aload_n 0, 1) := by decide +kernel
theorem dX5_freesJam_33 : decode cX5_freesJam 33 = .ok (.getfield 23, 3) := by decide +kernel
theorem dX5_freesJam_36 : decode cX5_freesJam 36 = .ok (.invokevirtual 160, 3) := by decide +kernel
theorem dX5_freesJam_39 : decode cX5_freesJam 39 = .ok (.aload_n 0, 1) := by decide +kernel
theorem dX5_freesJam_40 : decode cX5_freesJam 40 = .ok (.getfield 26, 3) := by decide +kernel
theorem dX5_freesJam_43 : decode cX5_freesJam 43 = .ok (.getfield 212, 3) := by decide +kernel
theorem dX5_freesJam_46 : decode cX5_freesJam 46 = .ok (.ifCond .ne 18, 3) := by decide +kernel
theorem dX5_freesJam_49 : decode cX5_freesJam 49 = .ok (.aload_n 0, 1) := by decide +kernel
theorem dX5_freesJam_50 : decode cX5_freesJam 50 = .ok (.getfield 26, 3) := by decide +kernel
theorem dX5_freesJam_53 : decode cX5_freesJam 53 = .ok (.getfield 215, 3) := by decide +kernel
theorem dX5_freesJam_56 : decode cX5_freesJam 56 = .ok (.iconst 1, 1) := by decide +kernel
theorem dX5_freesJam_57 : decode cX5_freesJam 57 = .ok (.if_icmp .le 7, 3) := by decide +kernel
theorem dX5_freesJam_60 : decode cX5_freesJam 60 = .ok (.iconst 1, 1) := by decide +kernel
theorem dX5_freesJam_61 : decode cX5_freesJam 61 = .ok (.goto 4, 3) := by decide +kernel
theorem dX5_freesJam_64 : decode cX5_freesJam 64 = .ok (.iconst 0, 1) := by decide +kernel
theorem dX5_freesJam_65 : decode cX5_freesJam 65 = .ok (.ireturn, 1) := by decide +kernel
theorem dX5_mix_0 : decode cX5_mix 0 = .ok (.ldc2_w 343, 3) := by decide +kernel
theorem dX5_mix_3 : decode cX5_mix 3 = .ok (.lload_n 0, 1) := by decide +kernel
theorem dX5_mix_4 : decode cX5_mix 4 = .ok (.lmul, 1) := by decide +kernel
theorem dX5_mix_5 : decode cX5_mix 5 = .ok (.lload_n 2, 1) := by decide +kernel
theorem dX5_mix_6 : decode cX5_mix 6 = .ok (.ladd, 1) := by decide +kernel
theorem dX5_mix_7 : decode cX5_mix 7 = .ok (.lreturn, 1) := by decide +kernel
theorem dX5_mixPeg_0 : decode cX5_mixPeg 0 = .ok (.lload_n 1, 1) := by decide +kernel
theorem dX5_mixPeg_1 : decode cX5_mixPeg 1 = .ok (.lstore 4, 2) := by decide +kernel
theorem dX5_mixPeg_3 : decode cX5_mixPeg 3 = .ok (.iconst 0, 1) := by decide +kernel
theorem dX5_mixPeg_4 : decode cX5_mixPeg 4 = .ok (.istore 6, 2) := by decide +kernel
theorem dX5_mixPeg_6 : decode cX5_mixPeg 6 = .ok (.iload 6, 2) := by decide +kernel
theorem dX5_mixPeg_8 : decode cX5_mixPeg 8 = .ok (.bipush 8, 2) := by decide +kernel
theorem dX5_mixPeg_10 : decode cX5_mixPeg 10 = .ok (.if_icmp .gt 24, 3) := by decide +kernel
theorem dX5_mixPeg_13 : decode cX5_mixPeg 13 = .ok (.lload 4, 2) := by decide +kernel
theorem dX5_mixPeg_15 : decode cX5_mixPeg 15 = .ok (.aload_n 0, 1) := by decide +kernel
theorem dX5_mixPeg_16 : decode cX5_mixPeg 16 = .ok (.iload_n 3, 1) := by decide +kernel
theorem dX5_mixPeg_17 : decode cX5_mixPeg 17 = .ok (.iload 6, 2) := by decide +kernel
theorem dX5_mixPeg_19 : decode cX5_mixPeg 19 = .ok (.invokevirtual 167, 3) := by decide +kernel
theorem dX5_mixPeg_22 : decode cX5_mixPeg 22 = .ok (.i2l, 1) := by decide +kernel
theorem dX5_mixPeg_23 : decode cX5_mixPeg 23 = .ok (.invokestatic 234, 3) := by decide +kernel
theorem dX5_mixPeg_26 : decode cX5_mixPeg 26 = .ok (.lstore 4, 2) := by decide +kernel
theorem dX5_mixPeg_28 : decode cX5_mixPeg 28 = .ok (.iinc 6 1, 3) := by decide +kernel
theorem dX5_mixPeg_31 : decode cX5_mixPeg 31 = .ok (.goto (-25), 3) := by decide +kernel
theorem dX5_mixPeg_34 : decode cX5_mixPeg 34 = .ok (.lload 4, 2) := by decide +kernel
theorem dX5_mixPeg_36 : decode cX5_mixPeg 36 = .ok (.aload_n 0, 1) := by decide +kernel
theorem dX5_mixPeg_37 : decode cX5_mixPeg 37 = .ok (.getfield 19, 3) := by decide +kernel
theorem dX5_mixPeg_40 : decode cX5_mixPeg 40 = .ok (.getfield 171, 3) := by decide +kernel
theorem dX5_mixPeg_43 : decode cX5_mixPeg 43 = .ok (.iload_n 3, 1) := by decide +kernel
theorem dX5_mixPeg_44 : decode cX5_mixPeg 44 = .ok (.laload, 1) := by decide +kernel
theorem dX5_mixPeg_45 : decode cX5_mixPeg 45 = .ok (.invokestatic 234, 3) := by decide +kernel
theorem dX5_mixPeg_48 : decode cX5_mixPeg 48 = .ok (.lstore 4, 2) := by decide +kernel
theorem dX5_mixPeg_50 : decode cX5_mixPeg 50 = .ok (.lload 4, 2) := by decide +kernel
theorem dX5_mixPeg_52 : decode cX5_mixPeg 52 = .ok (.aload_n 0, 1) := by decide +kernel
theorem dX5_mixPeg_53 : decode cX5_mixPeg 53 = .ok (.getfield 19, 3) := by decide +kernel
theorem dX5_mixPeg_56 : decode cX5_mixPeg 56 = .ok (.getfield 175, 3) := by decide +kernel
theorem dX5_mixPeg_59 : decode cX5_mixPeg 59 = .ok (.iload_n 3, 1) := by decide +kernel
theorem dX5_mixPeg_60 : decode cX5_mixPeg 60 = .ok (.laload, 1) := by decide +kernel
theorem dX5_mixPeg_61 : decode cX5_mixPeg 61 = .ok (.invokestatic 234, 3) := by decide +kernel
theorem dX5_mixPeg_64 : decode cX5_mixPeg 64 = .ok (.lreturn, 1) := by decide +kernel
theorem dX5_mixPair_0 : decode cX5_mixPair 0 = .ok (.aload_n 0, 1) := by decide +kernel
theorem dX5_mixPair_1 : decode cX5_mixPair 1 = .ok (.getfield 32, 3) := by decide +kernel
theorem dX5_mixPair_4 : decode cX5_mixPair 4 = .ok (.aload_n 0, 1) := by decide +kernel
theorem dX5_mixPair_5 : decode cX5_mixPair 5 = .ok (.getfield 12, 3) := by decide +kernel
theorem dX5_mixPair_8 : decode cX5_mixPair 8 = .ok (.aload_n 0, 1) := by decide +kernel
theorem dX5_mixPair_9 : decode cX5_mixPair 9 = .ok (.getfield 19, 3) := by decide +kernel
theorem dX5_mixPair_12 : decode cX5_mixPair 12 = .ok (.iload_n 3, 1) := by decide +kernel
theorem dX5_mixPair_13 : decode cX5_mixPair 13 = .ok (.iload 4, 2) := by decide +kernel
theorem dX5_mixPair_15 : decode cX5_mixPair 15 = .ok (.invokevirtual 181, 3) := by decide +kernel
theorem dX5_mixPair_18 : decode cX5_mixPair 18 = .ok (.lload_n 1, 1) := by decide +kernel
theorem dX5_mixPair_19 : decode cX5_mixPair 19 = .ok (.aload_n 0, 1) := by decide +kernel
theorem dX5_mixPair_20 : decode cX5_mixPair 20 = .ok (.getfield 19, 3) := by decide +kernel
theorem dX5_mixPair_23 : decode cX5_mixPair 23 = .ok (.iload_n 3, 1) := by decide +kernel
theorem dX5_mixPair_24 : decode cX5_mixPair 24 = .ok (.iload 4, 2) := by decide +kernel
theorem dX5_mixPair_26 : decode cX5_mixPair 26 = .ok (.invokevirtual 178, 3) := by decide +kernel
theorem dX5_mixPair_29 : decode cX5_mixPair 29 = .ok (.i2l, 1) := by decide +kernel
theorem dX5_mixPair_30 : decode cX5_mixPair 30 = .ok (.invokestatic 234, 3) := by decide +kernel
theorem dX5_mixPair_33 : decode cX5_mixPair 33 = .ok (.lstore 5, 2) := by decide +kernel
theorem dX5_mixPair_35 : decode cX5_mixPair 35 = .ok (.iconst 0, 1) := by decide +kernel
theorem dX5_mixPair_36 : decode cX5_mixPair 36 = .ok (.istore 7, 2) := by decide +kernel
theorem dX5_mixPair_38 : decode cX5_mixPair 38 = .ok (.iload 7, 2) := by decide +kernel
theorem dX5_mixPair_40 : decode cX5_mixPair 40 = .ok (.iconst 3, 1) := by decide +kernel
theorem dX5_mixPair_41 : decode cX5_mixPair 41 = .ok (.if_icmp .gt 23, 3) := by decide +kernel
theorem dX5_mixPair_44 : decode cX5_mixPair 44 = .ok (.lload 5, 2) := by decide +kernel
theorem dX5_mixPair_46 : decode cX5_mixPair 46 = .ok (.aload_n 0, 1) := by decide +kernel
theorem dX5_mixPair_47 : decode cX5_mixPair 47 = .ok (.iload 7, 2) := by decide +kernel
theorem dX5_mixPair_49 : decode cX5_mixPair 49 = .ok (.invokevirtual 185, 3) := by decide +kernel
theorem dX5_mixPair_52 : decode cX5_mixPair 52 = .ok (.i2l, 1) := by decide +kernel
theorem dX5_mixPair_53 : decode cX5_mixPair 53 = .ok (.invokestatic 234, 3) := by decide +kernel
theorem dX5_mixPair_56 : decode cX5_mixPair 56 = .ok (.lstore 5, 2) := by decide +kernel
theorem dX5_mixPair_58 : decode cX5_mixPair 58 = .ok (.iinc 7 1, 3) := by decide +kernel
theorem dX5_mixPair_61 : decode cX5_mixPair 61 = .ok (.goto (-23), 3) := by decide +kernel
theorem dX5_mixPair_64 : decode cX5_mixPair 64 = .ok (.lload 5, 2) := by decide +kernel
theorem dX5_mixPair_66 : decode cX5_mixPair 66 = .ok (.aload_n 0, 1) := by decide +kernel
theorem dX5_mixPair_67 : decode cX5_mixPair 67 = .ok (.getfield 32, 3) := by decide +kernel
theorem dX5_mixPair_70 : decode cX5_mixPair 70 = .ok (.getfield 188, 3) := by decide +kernel
theorem dX5_mixPair_73 : decode cX5_mixPair 73 = .ok (.invokestatic 234, 3) := by decide +kernel
theorem dX5_mixPair_76 : decode cX5_mixPair 76 = .ok (.lstore 5, 2) := by decide +kernel
theorem dX5_mixPair_78 : decode cX5_mixPair 78 = .ok (.lload 5, 2) := by decide +kernel
theorem dX5_mixPair_80 : decode cX5_mixPair 80 = .ok (.aload_n 0, 1) := by decide +kernel
theorem dX5_mixPair_81 : decode cX5_mixPair 81 = .ok (.getfield 32, 3) := by decide +kernel
theorem dX5_mixPair_84 : decode cX5_mixPair 84 = .ok (.getfield 192, 3) := by decide +kernel
theorem dX5_mixPair_87 : decode cX5_mixPair 87 = .ok (.invokestatic 234, 3) := by decide +kernel
theorem dX5_mixPair_90 : decode cX5_mixPair 90 = .ok (.lreturn, 1) := by decide +kernel
theorem dX5_bitsOfShare_0 : decode cX5_bitsOfShare 0 = .ok (.dload_n 0, 1) := by decide +kernel
theorem dX5_bitsOfShare_1 : decode cX5_bitsOfShare 1 = .ok (.dconst 0, 1) := by decide +kernel
theorem dX5_bitsOfShare_2 : decode cX5_bitsOfShare 2 = .ok (.dcmp .g, 1) := by decide +kernel
theorem dX5_bitsOfShare_3 : decode cX5_bitsOfShare 3 = .ok (.ifCond .gt 5, 3) := by decide +kernel
theorem dX5_bitsOfShare_6 : decode cX5_bitsOfShare 6 = .ok (.lconst 0, 1) := by decide +kernel
theorem dX5_bitsOfShare_7 : decode cX5_bitsOfShare 7 = .ok (.lreturn, 1) := by decide +kernel
theorem dX5_bitsOfShare_8 : decode cX5_bitsOfShare 8 = .ok (.dload_n 0, 1) := by decide +kernel
theorem dX5_bitsOfShare_9 : decode cX5_bitsOfShare 9 = .ok (.dstore_n 2, 1) := by decide +kernel
theorem dX5_bitsOfShare_10 : decode cX5_bitsOfShare 10 = .ok (.ldc2_w 345, 3) := by decide +kernel
theorem dX5_bitsOfShare_13 : decode cX5_bitsOfShare 13 = .ok (.lstore 4, 2) := by decide +kernel
theorem dX5_bitsOfShare_15 : decode cX5_bitsOfShare 15 = .ok (.iconst 0, 1) := by decide +kernel
theorem dX5_bitsOfShare_16 : decode cX5_bitsOfShare 16 = .ok (.istore 6, 2) := by decide +kernel
theorem dX5_bitsOfShare_18 : decode cX5_bitsOfShare 18 = .ok (.iload 6, 2) := by decide +kernel
theorem dX5_bitsOfShare_20 : decode cX5_bitsOfShare 20 = .ok (.bipush 52, 2) := by decide +kernel
theorem dX5_bitsOfShare_22 : decode cX5_bitsOfShare 22 = .ok (.if_icmp .ge 27, 3) := by decide +kernel
theorem dX5_bitsOfShare_25 : decode cX5_bitsOfShare 25 = .ok (.dload_n 2, 1) := by decide +kernel
theorem dX5_bitsOfShare_26 : decode cX5_bitsOfShare 26 = .ok (.dconst 1, 1) := by decide +kernel
theorem dX5_bitsOfShare_27 : decode cX5_bitsOfShare 27 = .ok (.dcmp .g, 1) := by decide +kernel
theorem dX5_bitsOfShare_28 : decode cX5_bitsOfShare 28 = .ok (.ifCond .ge 21, 3) := by decide +kernel
theorem dX5_bitsOfShare_31 : decode cX5_bitsOfShare 31 = .ok (.dload_n 2, 1) := by decide +kernel
theorem dX5_bitsOfShare_32 : decode cX5_bitsOfShare 32 = .ok (.ldc2_w 347, 3) := by decide +kernel
theorem dX5_bitsOfShare_35 : decode cX5_bitsOfShare 35 = .ok (.dmul, 1) := by decide +kernel
theorem dX5_bitsOfShare_36 : decode cX5_bitsOfShare 36 = .ok (.dstore_n 2, 1) := by decide +kernel
theorem dX5_bitsOfShare_37 : decode cX5_bitsOfShare 37 = .ok (.lload 4, 2) := by decide +kernel
theorem dX5_bitsOfShare_39 : decode cX5_bitsOfShare 39 = .ok (.lconst 1, 1) := by decide +kernel
theorem dX5_bitsOfShare_40 : decode cX5_bitsOfShare 40 = .ok (.lsub, 1) := by decide +kernel
theorem dX5_bitsOfShare_41 : decode cX5_bitsOfShare 41 = .ok (.lstore 4, 2) := by decide +kernel
theorem dX5_bitsOfShare_43 : decode cX5_bitsOfShare 43 = .ok (.iinc 6 1, 3) := by decide +kernel
theorem dX5_bitsOfShare_46 : decode cX5_bitsOfShare 46 = .ok (.goto (-28), 3) := by decide +kernel
theorem dX5_bitsOfShare_49 : decode cX5_bitsOfShare 49 = .ok (.dload_n 2, 1) := by decide +kernel
theorem dX5_bitsOfShare_50 : decode cX5_bitsOfShare 50 = .ok (.ldc2_w 349, 3) := by decide +kernel
theorem dX5_bitsOfShare_53 : decode cX5_bitsOfShare 53 = .ok (.dmul, 1) := by decide +kernel
theorem dX5_bitsOfShare_54 : decode cX5_bitsOfShare 54 = .ok (.d2l, 1) := by decide +kernel
theorem dX5_bitsOfShare_55 : decode cX5_bitsOfShare 55 = .ok (.ldc2_w 351, 3) := by decide +kernel
theorem dX5_bitsOfShare_58 : decode cX5_bitsOfShare 58 = .ok (.lsub, 1) := by decide +kernel
theorem dX5_bitsOfShare_59 : decode cX5_bitsOfShare 59 = .ok (.lstore 6, 2) := by decide +kernel
theorem dX5_bitsOfShare_61 : decode cX5_bitsOfShare 61 = .ok (.lload 4, 2) := by decide +kernel
theorem dX5_bitsOfShare_63 : decode cX5_bitsOfShare 63 = .ok (.bipush 52, 2) := by decide +kernel
theorem dX5_bitsOfShare_65 : decode cX5_bitsOfShare 65 = .ok (.lshl, 1) := by decide +kernel
theorem dX5_bitsOfShare_66 : decode cX5_bitsOfShare 66 = .ok (.lload 6, 2) := by decide +kernel
theorem dX5_bitsOfShare_68 : decode cX5_bitsOfShare 68 = .ok (.ladd, 1) := by decide +kernel
theorem dX5_bitsOfShare_69 : decode cX5_bitsOfShare 69 = .ok (.lreturn, 1) := by decide +kernel
theorem dX5_toNumber_0 : decode cX5_toNumber 0 = .ok (.iload_n 0, 1) := by decide +kernel
theorem dX5_toNumber_1 : decode cX5_toNumber 1 = .ok (.ifCond .eq 7, 3) := by decide +kernel
theorem dX5_toNumber_4 : decode cX5_toNumber 4 = .ok (.iconst 1, 1) := by decide +kernel
theorem dX5_toNumber_5 : decode cX5_toNumber 5 = .ok (.goto 4, 3) := by decide +kernel
theorem dX5_toNumber_8 : decode cX5_toNumber 8 = .ok (.iconst 0, 1) := by decide +kernel
theorem dX5_toNumber_9 : decode cX5_toNumber 9 = .ok (.ireturn, 1) := by decide +kernel
theorem dX5_commonDivisor_0 : decode cX5_commonDivisor 0 = .ok (.lload_n 0, 1) := by decide +kernel
theorem dX5_commonDivisor_1 : decode cX5_commonDivisor 1 = .ok (.lconst 0, 1) := by decide +kernel
theorem dX5_commonDivisor_2 : decode cX5_commonDivisor 2 = .ok (.lcmp, 1) := by decide +kernel
theorem dX5_commonDivisor_3 : decode cX5_commonDivisor 3 = .ok (.ifCond .ge 8, 3) := by decide +kernel
theorem dX5_commonDivisor_6 : decode cX5_commonDivisor 6 = .ok (.lload_n 0, 1) := by decide +kernel
theorem dX5_commonDivisor_7 : decode cX5_commonDivisor 7 = .ok (.lneg, 1) := by decide +kernel
theorem dX5_commonDivisor_8 : decode cX5_commonDivisor 8 = .ok (.goto 4, 3) := by decide +kernel
theorem dX5_commonDivisor_11 : decode cX5_commonDivisor 11 = .ok (.lload_n 0, 1) := by decide +kernel
theorem dX5_commonDivisor_12 : decode cX5_commonDivisor 12 = .ok (.lstore 4, 2) := by decide +kernel
theorem dX5_commonDivisor_14 : decode cX5_commonDivisor 14 = .ok (.lload_n 2, 1) := by decide +kernel
theorem dX5_commonDivisor_15 : decode cX5_commonDivisor 15 = .ok (.lconst 0, 1) := by decide +kernel
theorem dX5_commonDivisor_16 : decode cX5_commonDivisor 16 = .ok (.lcmp, 1) := by decide +kernel
theorem dX5_commonDivisor_17 : decode cX5_commonDivisor 17 = .ok (.ifCond .ge 8, 3) := by decide +kernel
theorem dX5_commonDivisor_20 : decode cX5_commonDivisor 20 = .ok (.lload_n 2, 1) := by decide +kernel
theorem dX5_commonDivisor_21 : decode cX5_commonDivisor 21 = .ok (.lneg, 1) := by decide +kernel
theorem dX5_commonDivisor_22 : decode cX5_commonDivisor 22 = .ok (.goto 4, 3) := by decide +kernel
theorem dX5_commonDivisor_25 : decode cX5_commonDivisor 25 = .ok (.lload_n 2, 1) := by decide +kernel
theorem dX5_commonDivisor_26 : decode cX5_commonDivisor 26 = .ok (.lstore 6, 2) := by decide +kernel
theorem dX5_commonDivisor_28 : decode cX5_commonDivisor 28 = .ok (.iconst 0, 1) := by decide +kernel
theorem dX5_commonDivisor_29 : decode cX5_commonDivisor 29 = .ok (.istore 8, 2) := by decide +kernel
theorem dX5_commonDivisor_31 : decode cX5_commonDivisor 31 = .ok (.iload 8, 2) := by decide +kernel
theorem dX5_commonDivisor_33 : decode cX5_commonDivisor 33 = .ok (.sipush 200, 3) := by decide +kernel
theorem dX5_commonDivisor_36 : decode cX5_commonDivisor 36 = .ok (.if_icmp .ge 31, 3) := by decide +kernel
theorem dX5_commonDivisor_39 : decode cX5_commonDivisor 39 = .ok (.lload 6, 2) := by decide +kernel
theorem dX5_commonDivisor_41 : decode cX5_commonDivisor 41 = .ok (.lconst 0, 1) := by decide +kernel
theorem dX5_commonDivisor_42 : decode cX5_commonDivisor 42 = .ok (.lcmp, 1) := by decide +kernel
theorem dX5_commonDivisor_43 : decode cX5_commonDivisor 43 = .ok (.ifCond .eq 24, 3) := by decide +kernel
theorem dX5_commonDivisor_46 : decode cX5_commonDivisor 46 = .ok (.lload 4, 2) := by decide +kernel
theorem dX5_commonDivisor_48 : decode cX5_commonDivisor 48 = .ok (.lload 6, 2) := by decide +kernel
theorem dX5_commonDivisor_50 : decode cX5_commonDivisor 50 = .ok (.lrem, 1) := by decide +kernel
theorem dX5_commonDivisor_51 : decode cX5_commonDivisor 51 = .ok (.lstore 9, 2) := by decide +kernel
theorem dX5_commonDivisor_53 : decode cX5_commonDivisor 53 = .ok (.lload 6, 2) := by decide +kernel
theorem dX5_commonDivisor_55 : decode cX5_commonDivisor 55 = .ok (.lstore 4, 2) := by decide +kernel
theorem dX5_commonDivisor_57 : decode cX5_commonDivisor 57 = .ok (.lload 9, 2) := by decide +kernel
theorem dX5_commonDivisor_59 : decode cX5_commonDivisor 59 = .ok (.lstore 6, 2) := by decide +kernel
theorem dX5_commonDivisor_61 : decode cX5_commonDivisor 61 = .ok (.iinc 8 1, 3) := by decide +kernel
theorem dX5_commonDivisor_64 : decode cX5_commonDivisor 64 = .ok (.goto (-33), 3) := by decide +kernel
theorem dX5_commonDivisor_67 : decode cX5_commonDivisor 67 = .ok (.lload 4, 2) := by decide +kernel
theorem dX5_commonDivisor_69 : decode cX5_commonDivisor 69 = .ok (.lconst 0, 1) := by decide +kernel
theorem dX5_commonDivisor_70 : decode cX5_commonDivisor 70 = .ok (.lcmp, 1) := by decide +kernel
theorem dX5_commonDivisor_71 : decode cX5_commonDivisor 71 = .ok (.ifCond .le 8, 3) := by decide +kernel
theorem dX5_commonDivisor_74 : decode cX5_commonDivisor 74 = .ok (.lload 4, 2) := by decide +kernel
theorem dX5_commonDivisor_76 : decode cX5_commonDivisor 76 = .ok (.goto 4, 3) := by decide +kernel
theorem dX5_commonDivisor_79 : decode cX5_commonDivisor 79 = .ok (.lconst 1, 1) := by decide +kernel
theorem dX5_commonDivisor_80 : decode cX5_commonDivisor 80 = .ok (.lreturn, 1) := by decide +kernel
theorem dX6_init_0 : decode cX6_init 0 = .ok (.aload_n 0, 1) := by decide +kernel
theorem dX6_init_1 : decode cX6_init 1 = .ok (.invokespecial 1, 3) := by decide +kernel
theorem dX6_init_4 : decode cX6_init 4 = .ok (.aload_n 0, 1) := by decide +kernel
theorem dX6_init_5 : decode cX6_init 5 = .ok (.bipush 60, 2) := by decide +kernel
theorem dX6_init_7 : decode cX6_init 7 = .ok (.newarray .int, 2) := by decide +kernel
theorem dX6_init_9 : decode cX6_init 9 = .ok (.putfield 7, 3) := by decide +kernel
theorem dX6_init_12 : decode cX6_init 12 = .ok (.aload_n 0, 1) := by decide +kernel
theorem dX6_init_13 : decode cX6_init 13 = .ok (.bipush 60, 2) := by decide +kernel
theorem dX6_init_15 : decode cX6_init 15 = .ok (.newarray .int, 2) := by decide +kernel
theorem dX6_init_17 : decode cX6_init 17 = .ok (.putfield 13, 3) := by decide +kernel
theorem dX6_init_20 : decode cX6_init 20 = .ok (.aload_n 0, 1) := by decide +kernel
theorem dX6_init_21 : decode cX6_init 21 = .ok (.sipush 360, 3) := by decide +kernel
theorem dX6_init_24 : decode cX6_init 24 = .ok (.newarray .int, 2) := by decide +kernel
theorem dX6_init_26 : decode cX6_init 26 = .ok (.putfield 16, 3) := by decide +kernel
theorem dX6_init_29 : decode cX6_init 29 = .ok (.aload_n 0, 1) := by decide +kernel
theorem dX6_init_30 : decode cX6_init 30 = .ok (.bipush 60, 2) := by decide +kernel
theorem dX6_init_32 : decode cX6_init 32 = .ok (.newarray .int, 2) := by decide +kernel
theorem dX6_init_34 : decode cX6_init 34 = .ok (.putfield 19, 3) := by decide +kernel
theorem dX6_init_37 : decode cX6_init 37 = .ok (.aload_n 0, 1) := by decide +kernel
theorem dX6_init_38 : decode cX6_init 38 = .ok (.bipush 9, 2) := by decide +kernel
theorem dX6_init_40 : decode cX6_init 40 = .ok (.newarray .long, 2) := by decide +kernel
theorem dX6_init_42 : decode cX6_init 42 = .ok (.putfield 22, 3) := by decide +kernel
theorem dX6_init_45 : decode cX6_init 45 = .ok (.aload_n 0, 1) := by decide +kernel
theorem dX6_init_46 : decode cX6_init 46 = .ok (.bipush 9, 2) := by decide +kernel
theorem dX6_init_48 : decode cX6_init 48 = .ok (.newarray .long, 2) := by decide +kernel
theorem dX6_init_50 : decode cX6_init 50 = .ok (.putfield 26, 3) := by decide +kernel
theorem dX6_init_53 : decode cX6_init 53 = .ok (.aload_n 0, 1) := by decide +kernel
theorem dX6_init_54 : decode cX6_init 54 = .ok (.bipush 9, 2) := by decide +kernel
theorem dX6_init_56 : decode cX6_init 56 = .ok (.newarray .boolean, 2) := by decide +kernel
theorem dX6_init_58 : decode cX6_init 58 = .ok (.putfield 29, 3) := by decide +kernel
theorem dX6_init_61 : decode cX6_init 61 = .ok (.aload_n 0, 1) := by decide +kernel
theorem dX6_init_62 : decode cX6_init 62 = .ok (.iconst 4, 1) := by decide +kernel
theorem dX6_init_63 : decode cX6_init 63 = .ok (.newarray .int, 2) := by decide +kernel
theorem dX6_init_65 : decode cX6_init 65 = .ok (.putfield 33, 3) := by decide +kernel
theorem dX6_init_68 : decode cX6_init 68 = .ok (.aload_n 0, 1) := by decide +kernel
theorem dX6_init_69 : decode cX6_init 69 = .ok (.bipush 9, 2) := by decide +kernel
theorem dX6_init_71 : decode cX6_init 71 = .ok (.newarray .int, 2) := by decide +kernel
theorem dX6_init_73 : decode cX6_init 73 = .ok (.putfield 36, 3) := by decide +kernel
theorem dX6_init_76 : decode cX6_init 76 = .ok (.aload_n 0, 1) := by decide +kernel
theorem dX6_init_77 : decode cX6_init 77 = .ok (.bipush 9, 2) := by decide +kernel
theorem dX6_init_79 : decode cX6_init 79 = .ok (.newarray .int, 2) := by decide +kernel
theorem dX6_init_81 : decode cX6_init 81 = .ok (.putfield 39, 3) := by decide +kernel
theorem dX6_init_84 : decode cX6_init 84 = .ok (.aload_n 0, 1) := by decide +kernel
theorem dX6_init_85 : decode cX6_init 85 = .ok (.getfield 7, 3) := by decide +kernel
theorem dX6_init_88 : decode cX6_init 88 = .ok (.bipush 55, 2) := by decide +kernel
theorem dX6_init_90 : decode cX6_init 90 = .ok (.iconst (-1), 1) := by decide +kernel
theorem dX6_init_91 : decode cX6_init 91 = .ok (.iastore, 1) := by decide +kernel
theorem dX6_init_92 : decode cX6_init 92 = .ok (.aload_n 0, 1) := by decide +kernel
theorem dX6_init_93 : decode cX6_init 93 = .ok (.getfield 7, 3) := by decide +kernel
theorem dX6_init_96 : decode cX6_init 96 = .ok (.bipush 56, 2) := by decide +kernel
theorem dX6_init_98 : decode cX6_init 98 = .ok (.iconst (-1), 1) := by decide +kernel
theorem dX6_init_99 : decode cX6_init 99 = .ok (.iastore, 1) := by decide +kernel
theorem dX6_init_100 : decode cX6_init 100 = .ok (.aload_n 0, 1) := by decide +kernel
theorem dX6_init_101 : decode cX6_init 101 = .ok (.getfield 7, 3) := by decide +kernel
theorem dX6_init_104 : decode cX6_init 104 = .ok (.bipush 58, 2) := by decide +kernel
theorem dX6_init_106 : decode cX6_init 106 = .ok (.iconst 1, 1) := by decide +kernel
theorem dX6_init_107 : decode cX6_init 107 = .ok (.iastore, 1) := by decide +kernel
theorem dX6_init_108 : decode cX6_init 108 = .ok (.return_, 1) := by decide +kernel
theorem dX6_thrown_0 : decode cX6_thrown 0 = .ok (.aload_n 0, 1) := by decide +kernel
theorem dX6_thrown_1 : decode cX6_thrown 1 = .ok (.getfield 42, 3) := by decide +kernel
theorem dX6_thrown_4 : decode cX6_thrown 4 = .ok (.ireturn, 1) := by decide +kernel
theorem dX6_in_0 : decode cX6_in 0 = .ok (.iload_n 0, 1) := by decide +kernel
theorem dX6_in_1 : decode cX6_in 1 = .ok (.iload_n 1, 1) := by decide +kernel
theorem dX6_in_2 : decode cX6_in 2 = .ok (.if_icmp .lt 12, 3) := by decide +kernel
theorem dX6_in_5 : decode cX6_in 5 = .ok (.iload_n 0, 1) := by decide +kernel
theorem dX6_in_6 : decode cX6_in 6 = .ok (.iload_n 2, 1) := by decide +kernel
theorem dX6_in_7 : decode cX6_in 7 = .ok (.if_icmp .gt 7, 3) := by decide +kernel
theorem dX6_in_10 : decode cX6_in 10 = .ok (.iconst 1, 1) := by decide +kernel
theorem dX6_in_11 : decode cX6_in 11 = .ok (.goto 4, 3) := by decide +kernel
theorem dX6_in_14 : decode cX6_in 14 = .ok (.iconst 0, 1) := by decide +kernel
theorem dX6_in_15 : decode cX6_in 15 = .ok (.ireturn, 1) := by decide +kernel
theorem dX6_holds_0 : decode cX6_holds 0 = .ok (.aload_n 0, 1) := by decide +kernel
theorem dX6_holds_1 : decode cX6_holds 1 = .ok (.iload_n 1, 1) := by decide +kernel
theorem dX6_holds_2 : decode cX6_holds 2 = .ok (.putfield 42, 3) := by decide +kernel
theorem dX6_holds_5 : decode cX6_holds 5 = .ok (.iload_n 1, 1) := by decide +kernel
theorem dX6_holds_6 : decode cX6_holds 6 = .ok (.ifCond .ne 7, 3) := by decide +kernel
theorem dX6_holds_9 : decode cX6_holds 9 = .ok (.iconst 1, 1) := by decide +kernel
theorem dX6_holds_10 : decode cX6_holds 10 = .ok (.goto 4, 3) := by decide +kernel
theorem dX6_holds_13 : decode cX6_holds 13 = .ok (.iconst 0, 1) := by decide +kernel
theorem dX6_holds_14 : decode cX6_holds 14 = .ok (.ireturn, 1) := by decide +kernel
theorem dX6_isPeg_0 : decode cX6_isPeg 0 = .ok (.iload_n 1, 1) := by decide +kernel
theorem dX6_isPeg_1 : decode cX6_isPeg 1 = .ok (.iconst 0, 1) := by decide +kernel
theorem dX6_isPeg_2 : decode cX6_isPeg 2 = .ok (.aload_n 0, 1) := by decide +kernel
theorem dX6_isPeg_3 : decode cX6_isPeg 3 = .ok (.getfield 7, 3) := by decide +kernel
theorem dX6_isPeg_6 : decode cX6_isPeg 6 = .ok (.iconst 0, 1) := by decide +kernel
theorem dX6_isPeg_7 : decode cX6_isPeg 7 = .ok (.iaload, 1) := by decide +kernel
theorem dX6_isPeg_8 : decode cX6_isPeg 8 = .ok (.iconst 1, 1) := by decide +kernel
theorem dX6_isPeg_9 : decode cX6_isPeg 9 = .ok (.isub, 1) := by decide +kernel
theorem dX6_isPeg_10 : decode cX6_isPeg 10 = .ok (.invokestatic 46, 3) := by decide +kernel
theorem dX6_isPeg_13 : decode cX6_isPeg 13 = .ok (.ireturn, 1) := by decide +kernel
theorem dX6_save_0 : decode cX6_save 0 = .ok (.aload_n 0, 1) := by decide +kernel
theorem dX6_save_1 : decode cX6_save 1 = .ok (.getfield 50, 3) := by decide +kernel
theorem dX6_save_4 : decode cX6_save 4 = .ok (.bipush 6, 2) := by decide +kernel
theorem dX6_save_6 : decode cX6_save 6 = .ok (.if_icmp .ne 43, 3) := by decide +kernel
theorem dX6_save_9 : decode cX6_save 9 = .ok (.iconst 0, 1) := by decide +kernel
theorem dX6_save_10 : decode cX6_save 10 = .ok (.istore_n 1, 1) := by decide +kernel
theorem dX6_save_11 : decode cX6_save 11 = .ok (.iload_n 1, 1) := by decide +kernel
theorem dX6_save_12 : decode cX6_save 12 = .ok (.sipush 300, 3) := by decide +kernel
theorem dX6_save_15 : decode cX6_save 15 = .ok (.if_icmp .ge 24, 3) := by decide +kernel
theorem dX6_save_18 : decode cX6_save 18 = .ok (.aload_n 0, 1) := by decide +kernel
theorem dX6_save_19 : decode cX6_save 19 = .ok (.getfield 16, 3) := by decide +kernel
theorem dX6_save_22 : decode cX6_save 22 = .ok (.iload_n 1, 1) := by decide +kernel
theorem dX6_save_23 : decode cX6_save 23 = .ok (.aload_n 0, 1) := by decide +kernel
theorem dX6_save_24 : decode cX6_save 24 = .ok (.getfield 16, 3) := by decide +kernel
theorem dX6_save_27 : decode cX6_save 27 = .ok (.bipush 60, 2) := by decide +kernel
theorem dX6_save_29 : decode cX6_save 29 = .ok (.iload_n 1, 1) := by decide +kernel
theorem dX6_save_30 : decode cX6_save 30 = .ok (.iadd, 1) := by decide +kernel
theorem dX6_save_31 : decode cX6_save 31 = .ok (.iaload, 1) := by decide +kernel
theorem dX6_save_32 : decode cX6_save 32 = .ok (.iastore, 1) := by decide +kernel
theorem dX6_save_33 : decode cX6_save 33 = .ok (.iinc 1 1, 3) := by decide +kernel
theorem dX6_save_36 : decode cX6_save 36 = .ok (.goto (-25), 3) := by decide +kernel
theorem dX6_save_39 : decode cX6_save 39 = .ok (.aload_n 0, 1) := by decide +kernel
theorem dX6_save_40 : decode cX6_save 40 = .ok (.dup, 1) := by decide +kernel
theorem dX6_save_41 : decode cX6_save 41 = .ok (.getfield 50, 3) := by decide +kernel
theorem dX6_save_44 : decode cX6_save 44 = .ok (.iconst 1, 1) := by decide +kernel
theorem dX6_save_45 : decode cX6_save 45 = .ok (.isub, 1) := by decide +kernel
theorem dX6_save_46 : decode cX6_save 46 = .ok (.putfield 50, 3) := by decide +kernel
theorem dX6_save_49 : decode cX6_save 49 = .ok (.iconst 0, 1) := by decide +kernel
theorem dX6_save_50 : decode cX6_save 50 = .ok (.istore_n 1, 1) := by decide +kernel
theorem dX6_save_51 : decode cX6_save 51 = .ok (.iload_n 1, 1) := by decide +kernel
theorem dX6_save_52 : decode cX6_save 52 = .ok (.bipush 60, 2) := by decide +kernel
theorem dX6_save_54 : decode cX6_save 54 = .ok (.if_icmp .ge 29, 3) := by decide +kernel
theorem dX6_save_57 : decode cX6_save 57 = .ok (.aload_n 0, 1) := by decide +kernel
theorem dX6_save_58 : decode cX6_save 58 = .ok (.getfield 16, 3) := by decide +kernel
theorem dX6_save_61 : decode cX6_save 61 = .ok (.bipush 60, 2) := by decide +kernel
theorem dX6_save_63 : decode cX6_save 63 = .ok (.aload_n 0, 1) := by decide +kernel
theorem dX6_save_64 : decode cX6_save 64 = .ok (.getfield 50, 3) := by decide +kernel
theorem dX6_save_67 : decode cX6_save 67 = .ok (.imul, 1) := by decide +kernel
theorem dX6_save_68 : decode cX6_save 68 = .ok (.iload_n 1, 1) := by decide +kernel
theorem dX6_save_69 : decode cX6_save 69 = .ok (.iadd, 1) := by decide +kernel
theorem dX6_save_70 : decode cX6_save 70 = .ok (.aload_n 0, 1) := by decide +kernel
theorem dX6_save_71 : decode cX6_save 71 = .ok (.getfield 7, 3) := by decide +kernel
theorem dX6_save_74 : decode cX6_save 74 = .ok (.iload_n 1, 1) := by decide +kernel
theorem dX6_save_75 : decode cX6_save 75 = .ok (.iaload, 1) := by decide +kernel
theorem dX6_save_76 : decode cX6_save 76 = .ok (.iastore, 1) := by decide +kernel
theorem dX6_save_77 : decode cX6_save 77 = .ok (.iinc 1 1, 3) := by decide +kernel
theorem dX6_save_80 : decode cX6_save 80 = .ok (.goto (-29), 3) := by decide +kernel
theorem dX6_save_83 : decode cX6_save 83 = .ok (.aload_n 0, 1) := by decide +kernel
theorem dX6_save_84 : decode cX6_save 84 = .ok (.dup, 1) := by decide +kernel
theorem dX6_save_85 : decode cX6_save 85 = .ok (.getfield 50, 3) := by decide +kernel
theorem dX6_save_88 : decode cX6_save 88 = .ok (.iconst 1, 1) := by decide +kernel
theorem dX6_save_89 : decode cX6_save 89 = .ok (.iadd, 1) := by decide +kernel
theorem dX6_save_90 : decode cX6_save 90 = .ok (.putfield 50, 3) := by decide +kernel
theorem dX6_save_93 : decode cX6_save 93 = .ok (.return_, 1) := by decide +kernel
theorem dX6_putAside_0 : decode cX6_putAside 0 = .ok (.iconst 0, 1) := by decide +kernel
theorem dX6_putAside_1 : decode cX6_putAside 1 = .ok (.istore_n 1, 1) := by decide +kernel
theorem dX6_putAside_2 : decode cX6_putAside 2 = .ok (.iload_n 1, 1) := by decide +kernel
theorem dX6_putAside_3 : decode cX6_putAside 3 = .ok (.bipush 60, 2) := by decide +kernel
theorem dX6_putAside_5 : decode cX6_putAside 5 = .ok (.if_icmp .ge 21, 3) := by decide +kernel
theorem dX6_putAside_8 : decode cX6_putAside 8 = .ok (.aload_n 0, 1) := by decide +kernel
theorem dX6_putAside_9 : decode cX6_putAside 9 = .ok (.getfield 13, 3) := by decide +kernel
theorem dX6_putAside_12 : decode cX6_putAside 12 = .ok (.iload_n 1, 1) := by decide +kernel
theorem dX6_putAside_13 : decode cX6_putAside 13 = .ok (.aload_n 0, 1) := by decide +kernel
theorem dX6_putAside_14 : decode cX6_putAside 14 = .ok (.getfield 7, 3) := by decide +kernel
theorem dX6_putAside_17 : decode cX6_putAside 17 = .ok (.iload_n 1, 1) := by decide +kernel
theorem dX6_putAside_18 : decode cX6_putAside 18 = .ok (.iaload, 1) := by decide +kernel
theorem dX6_putAside_19 : decode cX6_putAside 19 = .ok (.iastore, 1) := by decide +kernel
theorem dX6_putAside_20 : decode cX6_putAside 20 = .ok (.iinc 1 1, 3) := by decide +kernel
theorem dX6_putAside_23 : decode cX6_putAside 23 = .ok (.goto (-21), 3) := by decide +kernel
theorem dX6_putAside_26 : decode cX6_putAside 26 = .ok (.return_, 1) := by decide +kernel
theorem dX6_putBack_0 : decode cX6_putBack 0 = .ok (.iconst 0, 1) := by decide +kernel
theorem dX6_putBack_1 : decode cX6_putBack 1 = .ok (.istore_n 1, 1) := by decide +kernel
theorem dX6_putBack_2 : decode cX6_putBack 2 = .ok (.iload_n 1, 1) := by decide +kernel
theorem dX6_putBack_3 : decode cX6_putBack 3 = .ok (.bipush 60, 2) := by decide +kernel
theorem dX6_putBack_5 : decode cX6_putBack 5 = .ok (.if_icmp .ge 21, 3) := by decide +kernel
theorem dX6_putBack_8 : decode cX6_putBack 8 = .ok (.aload_n 0, 1) := by decide +kernel
theorem dX6_putBack_9 : decode cX6_putBack 9 = .ok (.getfield 7, 3) := by decide +kernel
theorem dX6_putBack_12 : decode cX6_putBack 12 = .ok (.iload_n 1, 1) := by decide +kernel
theorem dX6_putBack_13 : decode cX6_putBack 13 = .ok (.aload_n 0, 1) := by decide +kernel
theorem dX6_putBack_14 : decode cX6_putBack 14 = .ok (.getfield 13, 3) := by decide +kernel
theorem dX6_putBack_17 : decode cX6_putBack 17 = .ok (.iload_n 1, 1) := by decide +kernel
theorem dX6_putBack_18 : decode cX6_putBack 18 = .ok (.iaload, 1) := by decide +kernel
theorem dX6_putBack_19 : decode cX6_putBack 19 = .ok (.iastore, 1) := by decide +kernel
theorem dX6_putBack_20 : decode cX6_putBack 20 = .ok (.iinc 1 1, 3) := by decide +kernel
theorem dX6_putBack_23 : decode cX6_putBack 23 = .ok (.goto (-21), 3) := by decide +kernel
theorem dX6_putBack_26 : decode cX6_putBack 26 = .ok (.return_, 1) := by decide +kernel
theorem dX6_kind_0 : decode cX6_kind 0 = .ok (.aload_n 0, 1) := by decide +kernel
theorem dX6_kind_1 : decode cX6_kind 1 = .ok (.getfield 7, 3) := by decide +kernel
theorem dX6_kind_4 : decode cX6_kind 4 = .ok (.bipush 19, 2) := by decide +kernel
theorem dX6_kind_6 : decode cX6_kind 6 = .ok (.iconst 2, 1) := by decide +kernel
theorem dX6_kind_7 : decode cX6_kind 7 = .ok (.iload_n 1, 1) := by decide +kernel
theorem dX6_kind_8 : decode cX6_kind 8 = .ok (.imul, 1) := by decide +kernel
theorem dX6_kind_9 : decode cX6_kind 9 = .ok (.iadd, 1) := by decide +kernel
theorem dX6_kind_10 : decode cX6_kind 10 = .ok (.iload_n 2, 1) := by decide +kernel
theorem dX6_kind_11 : decode cX6_kind 11 = .ok (.iadd, 1) := by decide +kernel
theorem dX6_kind_12 : decode cX6_kind 12 = .ok (.iaload, 1) := by decide +kernel
theorem dX6_kind_13 : decode cX6_kind 13 = .ok (.ireturn, 1) := by decide +kernel
theorem dX6_teeth_0 : decode cX6_teeth 0 = .ok (.aload_n 0, 1) := by decide +kernel
theorem dX6_teeth_1 : decode cX6_teeth 1 = .ok (.getfield 7, 3) := by decide +kernel
theorem dX6_teeth_4 : decode cX6_teeth 4 = .ok (.bipush 37, 2) := by decide +kernel
theorem dX6_teeth_6 : decode cX6_teeth 6 = .ok (.iconst 2, 1) := by decide +kernel
theorem dX6_teeth_7 : decode cX6_teeth 7 = .ok (.iload_n 1, 1) := by decide +kernel
theorem dX6_teeth_8 : decode cX6_teeth 8 = .ok (.imul, 1) := by decide +kernel
theorem dX6_teeth_9 : decode cX6_teeth 9 = .ok (.iadd, 1) := by decide +kernel
theorem dX6_teeth_10 : decode cX6_teeth 10 = .ok (.iload_n 2, 1) := by decide +kernel
theorem dX6_teeth_11 : decode cX6_teeth 11 = .ok (.iadd, 1) := by decide +kernel
theorem dX6_teeth_12 : decode cX6_teeth 12 = .ok (.iaload, 1) := by decide +kernel
theorem dX6_teeth_13 : decode cX6_teeth 13 = .ok (.ireturn, 1) := by decide +kernel
theorem dX6_square_0 : decode cX6_square 0 = .ok (.aload_n 0, 1) := by decide +kernel
theorem dX6_square_1 : decode cX6_square 1 = .ok (.getfield 7, 3) := by decide +kernel
theorem dX6_square_4 : decode cX6_square 4 = .ok (.iconst 1, 1) := by decide +kernel
theorem dX6_square_5 : decode cX6_square 5 = .ok (.iload_n 1, 1) := by decide +kernel
theorem dX6_square_6 : decode cX6_square 6 = .ok (.iadd, 1) := by decide +kernel
theorem dX6_square_7 : decode cX6_square 7 = .ok (.iaload, 1) := by decide +kernel
theorem dX6_square_8 : decode cX6_square 8 = .ok (.aload_n 0, 1) := by decide +kernel
theorem dX6_square_9 : decode cX6_square 9 = .ok (.getfield 7, 3) := by decide +kernel
theorem dX6_square_12 : decode cX6_square 12 = .ok (.iconst 1, 1) := by decide +kernel
theorem dX6_square_13 : decode cX6_square 13 = .ok (.iload_n 2, 1) := by decide +kernel
theorem dX6_square_14 : decode cX6_square 14 = .ok (.iadd, 1) := by decide +kernel
theorem dX6_square_15 : decode cX6_square 15 = .ok (.iaload, 1) := by decide +kernel
theorem dX6_square_16 : decode cX6_square 16 = .ok (.isub, 1) := by decide +kernel
theorem dX6_square_17 : decode cX6_square 17 = .ok (.istore_n 3, 1) := by decide +kernel
theorem dX6_square_18 : decode cX6_square 18 = .ok (.aload_n 0, 1) := by decide +kernel
theorem dX6_square_19 : decode cX6_square 19 = .ok (.getfield 7, 3) := by decide +kernel
theorem dX6_square_22 : decode cX6_square 22 = .ok (.bipush 10, 2) := by decide +kernel
theorem dX6_square_24 : decode cX6_square 24 = .ok (.iload_n 1, 1) := by decide +kernel
theorem dX6_square_25 : decode cX6_square 25 = .ok (.iadd, 1) := by decide +kernel
theorem dX6_square_26 : decode cX6_square 26 = .ok (.iaload, 1) := by decide +kernel
theorem dX6_square_27 : decode cX6_square 27 = .ok (.aload_n 0, 1) := by decide +kernel
theorem dX6_square_28 : decode cX6_square 28 = .ok (.getfield 7, 3) := by decide +kernel
theorem dX6_square_31 : decode cX6_square 31 = .ok (.bipush 10, 2) := by decide +kernel
theorem dX6_square_33 : decode cX6_square 33 = .ok (.iload_n 2, 1) := by decide +kernel
theorem dX6_square_34 : decode cX6_square 34 = .ok (.iadd, 1) := by decide +kernel
theorem dX6_square_35 : decode cX6_square 35 = .ok (.iaload, 1) := by decide +kernel
theorem dX6_square_36 : decode cX6_square 36 = .ok (.isub, 1) := by decide +kernel
theorem dX6_square_37 : decode cX6_square 37 = .ok (.istore 4, 2) := by decide +kernel
theorem dX6_square_39 : decode cX6_square 39 = .ok (.iload_n 3, 1) := by decide +kernel
theorem dX6_square_40 : decode cX6_square 40 = .ok (.iload_n 3, 1) := by decide +kernel
theorem dX6_square_41 : decode cX6_square 41 = .ok (.imul, 1) := by decide +kernel
theorem dX6_square_42 : decode cX6_square 42 = .ok (.iload 4, 2) := by decide +kernel
theorem dX6_square_44 : decode cX6_square 44 = .ok (.iload 4, 2) := by decide +kernel
theorem dX6_square_46 : decode cX6_square 46 = .ok (.imul, 1) := by decide +kernel
theorem dX6_square_47 : decode cX6_square 47 = .ok (.iadd, 1) := by decide +kernel
theorem dX6_square_48 : decode cX6_square 48 = .ok (.ireturn, 1) := by decide +kernel
theorem dX6_less_0 : decode cX6_less 0 = .ok (.iload_n 0, 1) := by decide +kernel
theorem dX6_less_1 : decode cX6_less 1 = .ok (.iload_n 1, 1) := by decide +kernel
theorem dX6_less_2 : decode cX6_less 2 = .ok (.if_icmp .le 9, 3) := by decide +kernel
theorem dX6_less_5 : decode cX6_less 5 = .ok (.iload_n 0, 1) := by decide +kernel
theorem dX6_less_6 : decode cX6_less 6 = .ok (.iload_n 1, 1) := by decide +kernel
theorem dX6_less_7 : decode cX6_less 7 = .ok (.isub, 1) := by decide +kernel
theorem dX6_less_8 : decode cX6_less 8 = .ok (.goto 4, 3) := by decide +kernel
theorem dX6_less_11 : decode cX6_less 11 = .ok (.iconst 0, 1) := by decide +kernel
theorem dX6_less_12 : decode cX6_less 12 = .ok (.ireturn, 1) := by decide +kernel
theorem dX6_touch_0 : decode cX6_touch 0 = .ok (.aload_n 0, 1) := by decide +kernel
theorem dX6_touch_1 : decode cX6_touch 1 = .ok (.iload_n 1, 1) := by decide +kernel
theorem dX6_touch_2 : decode cX6_touch 2 = .ok (.iload_n 3, 1) := by decide +kernel
theorem dX6_touch_3 : decode cX6_touch 3 = .ok (.invokevirtual 53, 3) := by decide +kernel
theorem dX6_touch_6 : decode cX6_touch 6 = .ok (.istore 5, 2) := by decide +kernel
theorem dX6_touch_8 : decode cX6_touch 8 = .ok (.aload_n 0, 1) := by decide +kernel
theorem dX6_touch_9 : decode cX6_touch 9 = .ok (.iload_n 2, 1) := by decide +kernel
theorem dX6_touch_10 : decode cX6_touch 10 = .ok (.iload_n 3, 1) := by decide +kernel
theorem dX6_touch_11 : decode cX6_touch 11 = .ok (.invokevirtual 53, 3) := by decide +kernel
theorem dX6_touch_14 : decode cX6_touch 14 = .ok (.istore 6, 2) := by decide +kernel
theorem dX6_touch_16 : decode cX6_touch 16 = .ok (.iload_n 1, 1) := by decide +kernel
theorem dX6_touch_17 : decode cX6_touch 17 = .ok (.iload_n 2, 1) := by decide +kernel
theorem dX6_touch_18 : decode cX6_touch 18 = .ok (.if_icmp .eq 25, 3) := by decide +kernel
theorem dX6_touch_21 : decode cX6_touch 21 = .ok (.iload 5, 2) := by decide +kernel
theorem dX6_touch_23 : decode cX6_touch 23 = .ok (.ifCond .eq 20, 3) := by decide +kernel
theorem dX6_touch_26 : decode cX6_touch 26 = .ok (.iload 6, 2) := by decide +kernel
theorem dX6_touch_28 : decode cX6_touch 28 = .ok (.ifCond .eq 15, 3) := by decide +kernel
theorem dX6_touch_31 : decode cX6_touch 31 = .ok (.iload 5, 2) := by decide +kernel
theorem dX6_touch_33 : decode cX6_touch 33 = .ok (.iconst 2, 1) := by decide +kernel
theorem dX6_touch_34 : decode cX6_touch 34 = .ok (.if_icmp .ne 11, 3) := by decide +kernel
theorem dX6_touch_37 : decode cX6_touch 37 = .ok (.iload 6, 2) := by decide +kernel
theorem dX6_touch_39 : decode cX6_touch 39 = .ok (.iconst 2, 1) := by decide +kernel
theorem dX6_touch_40 : decode cX6_touch 40 = .ok (.if_icmp .ne 5, 3) := by decide +kernel
theorem dX6_touch_43 : decode cX6_touch 43 = .ok (.iconst 0, 1) := by decide +kernel
theorem dX6_touch_44 : decode cX6_touch 44 = .ok (.ireturn, 1) := by decide +kernel
theorem dX6_touch_45 : decode cX6_touch 45 = .ok (.aload_n 0, 1) := by decide +kernel
theorem dX6_touch_46 : decode cX6_touch 46 = .ok (.iload_n 1, 1) := by decide +kernel
theorem dX6_touch_47 : decode cX6_touch 47 = .ok (.iload_n 2, 1) := by decide +kernel
theorem dX6_touch_48 : decode cX6_touch 48 = .ok (.invokevirtual 57, 3) := by decide +kernel
theorem dX6_touch_51 : decode cX6_touch 51 = .ok (.istore 7, 2) := by decide +kernel
theorem dX6_touch_53 : decode cX6_touch 53 = .ok (.aload_n 0, 1) := by decide +kernel
theorem dX6_touch_54 : decode cX6_touch 54 = .ok (.getfield 7, 3) := by decide +kernel
theorem dX6_touch_57 : decode cX6_touch 57 = .ok (.bipush 59, 2) := by decide +kernel
theorem dX6_touch_59 : decode cX6_touch 59 = .ok (.iaload, 1) := by decide +kernel
theorem dX6_touch_60 : decode cX6_touch 60 = .ok (.istore 8, 2) := by decide +kernel
theorem dX6_touch_62 : decode cX6_touch 62 = .ok (.aload_n 0, 1) := by decide +kernel
theorem dX6_touch_63 : decode cX6_touch 63 = .ok (.iload_n 1, 1) := by decide +kernel
theorem dX6_touch_64 : decode cX6_touch 64 = .ok (.iload_n 3, 1) := by decide +kernel
theorem dX6_touch_65 : decode cX6_touch 65 = .ok (.invokevirtual 60, 3) := by decide +kernel
theorem dX6_touch_68 : decode cX6_touch 68 = .ok (.aload_n 0, 1) := by decide +kernel
theorem dX6_touch_69 : decode cX6_touch 69 = .ok (.iload_n 2, 1) := by decide +kernel
theorem dX6_touch_70 : decode cX6_touch 70 = .ok (.iload_n 3, 1) := by decide +kernel
theorem dX6_touch_71 : decode cX6_touch 71 = .ok (.invokevirtual 60, 3) := by decide +kernel
theorem dX6_touch_74 : decode cX6_touch 74 = .ok (.iadd, 1) := by decide +kernel
theorem dX6_touch_75 : decode cX6_touch 75 = .ok (.istore 9, 2) := by decide +kernel
theorem dX6_touch_77 : decode cX6_touch 77 = .ok (.iload 5, 2) := by decide +kernel
theorem dX6_touch_79 : decode cX6_touch 79 = .ok (.iconst 1, 1) := by decide +kernel
theorem dX6_touch_80 : decode cX6_touch 80 = .ok (.if_icmp .ne 73, 3) := by decide +kernel
theorem dX6_touch_83 : decode cX6_touch 83 = .ok (.iload 6, 2) := by decide +kernel
theorem dX6_touch_85 : decode cX6_touch 85 = .ok (.iconst 1, 1) := by decide +kernel
theorem dX6_touch_86 : decode cX6_touch 86 = .ok (.if_icmp .ne 67, 3) := by decide +kernel
theorem dX6_touch_89 : decode cX6_touch 89 = .ok (.iload 9, 2) := by decide +kernel
theorem dX6_touch_91 : decode cX6_touch 91 = .ok (.iload 8, 2) := by decide +kernel
theorem dX6_touch_93 : decode cX6_touch 93 = .ok (.invokestatic 63, 3) := by decide +kernel
theorem dX6_touch_96 : decode cX6_touch 96 = .ok (.istore 10, 2) := by decide +kernel
theorem dX6_touch_98 : decode cX6_touch 98 = .ok (.iload 4, 2) := by decide +kernel
theorem dX6_touch_100 : decode cX6_touch 100 = .ok (.ifCond .eq 37, 3) := by decide +kernel
theorem dX6_touch_103 : decode cX6_touch 103 = .ok (.iload 7, 2) := by decide +kernel
theorem dX6_touch_105 : decode cX6_touch 105 = .ok (.iload 10, 2) := by decide +kernel
theorem dX6_touch_107 : decode cX6_touch 107 = .ok (.iload 10, 2) := by decide +kernel
theorem dX6_touch_109 : decode cX6_touch 109 = .ok (.imul, 1) := by decide +kernel
theorem dX6_touch_110 : decode cX6_touch 110 = .ok (.if_icmp .lt 23, 3) := by decide +kernel
theorem dX6_touch_113 : decode cX6_touch 113 = .ok (.iload 7, 2) := by decide +kernel
theorem dX6_touch_115 : decode cX6_touch 115 = .ok (.iload 9, 2) := by decide +kernel
theorem dX6_touch_117 : decode cX6_touch 117 = .ok (.iload 8, 2) := by decide +kernel
theorem dX6_touch_119 : decode cX6_touch 119 = .ok (.iadd, 1) := by decide +kernel
theorem dX6_touch_120 : decode cX6_touch 120 = .ok (.iload 9, 2) := by decide +kernel
theorem dX6_touch_122 : decode cX6_touch 122 = .ok (.iload 8, 2) := by decide +kernel
theorem dX6_touch_124 : decode cX6_touch 124 = .ok (.iadd, 1) := by decide +kernel
theorem dX6_touch_125 : decode cX6_touch 125 = .ok (.imul, 1) := by decide +kernel
theorem dX6_touch_126 : decode cX6_touch 126 = .ok (.if_icmp .gt 7, 3) := by decide +kernel
theorem dX6_touch_129 : decode cX6_touch 129 = .ok (.iconst 1, 1) := by decide +kernel
theorem dX6_touch_130 : decode cX6_touch 130 = .ok (.goto 22, 3) := by decide +kernel
theorem dX6_touch_133 : decode cX6_touch 133 = .ok (.iconst 0, 1) := by decide +kernel
theorem dX6_touch_134 : decode cX6_touch 134 = .ok (.goto 18, 3) := by decide +kernel
theorem dX6_touch_137 : decode cX6_touch 137 = .ok (.iload 7, 2) := by decide +kernel
theorem dX6_touch_139 : decode cX6_touch 139 = .ok (.iload 10, 2) := by decide +kernel
theorem dX6_touch_141 : decode cX6_touch 141 = .ok (.iload 10, 2) := by decide +kernel
theorem dX6_touch_143 : decode cX6_touch 143 = .ok (.imul, 1) := by decide +kernel
theorem dX6_touch_144 : decode cX6_touch 144 = .ok (.if_icmp .ge 7, 3) := by decide +kernel
theorem dX6_touch_147 : decode cX6_touch 147 = .ok (.iconst 1, 1) := by decide +kernel
theorem dX6_touch_148 : decode cX6_touch 148 = .ok (.goto 4, 3) := by decide +kernel
theorem dX6_touch_151 : decode cX6_touch 151 = .ok (.iconst 0, 1) := by decide +kernel
theorem dX6_touch_152 : decode cX6_touch 152 = .ok (.ireturn, 1) := by decide +kernel
theorem dX6_touch_153 : decode cX6_touch 153 = .ok (.iload 5, 2) := by decide +kernel
theorem dX6_touch_155 : decode cX6_touch 155 = .ok (.iconst 2, 1) := by decide +kernel
theorem dX6_touch_156 : decode cX6_touch 156 = .ok (.if_icmp .ne 12, 3) := by decide +kernel
theorem dX6_touch_159 : decode cX6_touch 159 = .ok (.aload_n 0, 1) := by decide +kernel
theorem dX6_touch_160 : decode cX6_touch 160 = .ok (.iload_n 1, 1) := by decide +kernel
theorem dX6_touch_161 : decode cX6_touch 161 = .ok (.iload_n 3, 1) := by decide +kernel
theorem dX6_touch_162 : decode cX6_touch 162 = .ok (.invokevirtual 60, 3) := by decide +kernel
theorem dX6_touch_165 : decode cX6_touch 165 = .ok (.goto 9, 3) := by decide +kernel
theorem dX6_touch_168 : decode cX6_touch 168 = .ok (.aload_n 0, 1) := by decide +kernel
theorem dX6_touch_169 : decode cX6_touch 169 = .ok (.iload_n 2, 1) := by decide +kernel
theorem dX6_touch_170 : decode cX6_touch 170 = .ok (.iload_n 3, 1) := by decide +kernel
theorem dX6_touch_171 : decode cX6_touch 171 = .ok (.invokevirtual 60, 3) := by decide +kernel
theorem dX6_touch_174 : decode cX6_touch 174 = .ok (.istore 10, 2) := by decide +kernel
theorem dX6_touch_176 : decode cX6_touch 176 = .ok (.iload 9, 2) := by decide +kernel
theorem dX6_touch_178 : decode cX6_touch 178 = .ok (.iload 10, 2) := by decide +kernel
theorem dX6_touch_180 : decode cX6_touch 180 = .ok (.isub, 1) := by decide +kernel
theorem dX6_touch_181 : decode cX6_touch 181 = .ok (.istore 11, 2) := by decide +kernel
theorem dX6_touch_183 : decode cX6_touch 183 = .ok (.iload 10, 2) := by decide +kernel
theorem dX6_touch_185 : decode cX6_touch 185 = .ok (.iload 11, 2) := by decide +kernel
theorem dX6_touch_187 : decode cX6_touch 187 = .ok (.isub, 1) := by decide +kernel
theorem dX6_touch_188 : decode cX6_touch 188 = .ok (.iload 8, 2) := by decide +kernel
theorem dX6_touch_190 : decode cX6_touch 190 = .ok (.invokestatic 63, 3) := by decide +kernel
theorem dX6_touch_193 : decode cX6_touch 193 = .ok (.istore 12, 2) := by decide +kernel
theorem dX6_touch_195 : decode cX6_touch 195 = .ok (.iload 10, 2) := by decide +kernel
theorem dX6_touch_197 : decode cX6_touch 197 = .ok (.iload 11, 2) := by decide +kernel
theorem dX6_touch_199 : decode cX6_touch 199 = .ok (.isub, 1) := by decide +kernel
theorem dX6_touch_200 : decode cX6_touch 200 = .ok (.iload 8, 2) := by decide +kernel
theorem dX6_touch_202 : decode cX6_touch 202 = .ok (.iadd, 1) := by decide +kernel
theorem dX6_touch_203 : decode cX6_touch 203 = .ok (.istore 13, 2) := by decide +kernel
theorem dX6_touch_205 : decode cX6_touch 205 = .ok (.iload 10, 2) := by decide +kernel
theorem dX6_touch_207 : decode cX6_touch 207 = .ok (.iload 11, 2) := by decide +kernel
theorem dX6_touch_209 : decode cX6_touch 209 = .ok (.if_icmp .le 7, 3) := by decide +kernel
theorem dX6_touch_212 : decode cX6_touch 212 = .ok (.iconst 1, 1) := by decide +kernel
theorem dX6_touch_213 : decode cX6_touch 213 = .ok (.goto 4, 3) := by decide +kernel
theorem dX6_touch_216 : decode cX6_touch 216 = .ok (.iconst 0, 1) := by decide +kernel
theorem dX6_touch_217 : decode cX6_touch 217 = .ok (.istore 14, 2) := by decide +kernel
theorem dX6_touch_219 : decode cX6_touch 219 = .ok (.iload 4, 2) := by decide +kernel
theorem dX6_touch_221 : decode cX6_touch 221 = .ok (.ifCond .eq 34, 3) := by decide +kernel
theorem dX6_touch_224 : decode cX6_touch 224 = .ok (.iload 14, 2) := by decide +kernel
theorem dX6_touch_226 : decode cX6_touch 226 = .ok (.ifCond .eq 27, 3) := by decide +kernel
theorem dX6_touch_229 : decode cX6_touch 229 = .ok (.iload 7, 2) := by decide +kernel
theorem dX6_touch_231 : decode cX6_touch 231 = .ok (.iload 12, 2) := by decide +kernel
theorem dX6_touch_233 : decode cX6_touch 233 = .ok (.iload 12, 2) := by decide +kernel
theorem dX6_touch_235 : decode cX6_touch 235 = .ok (.imul, 1) := by decide +kernel
theorem dX6_touch_236 : decode cX6_touch 236 = .ok (.if_icmp .lt 17, 3) := by decide +kernel
theorem dX6_touch_239 : decode cX6_touch 239 = .ok (.iload 7, 2) := by decide +kernel
theorem dX6_touch_241 : decode cX6_touch 241 = .ok (.iload 13, 2) := by decide +kernel
theorem dX6_touch_243 : decode cX6_touch 243 = .ok (.iload 13, 2) := by decide +kernel
theorem dX6_touch_245 : decode cX6_touch 245 = .ok (.imul, 1) := by decide +kernel
theorem dX6_touch_246 : decode cX6_touch 246 = .ok (.if_icmp .gt 7, 3) := by decide +kernel
theorem dX6_touch_249 : decode cX6_touch 249 = .ok (.iconst 1, 1) := by decide +kernel
theorem dX6_touch_250 : decode cX6_touch 250 = .ok (.goto 4, 3) := by decide +kernel
theorem dX6_touch_253 : decode cX6_touch 253 = .ok (.iconst 0, 1) := by decide +kernel
theorem dX6_touch_254 : decode cX6_touch 254 = .ok (.ireturn, 1) := by decide +kernel
theorem dX6_touch_255 : decode cX6_touch 255 = .ok (.iload 7, 2) := by decide +kernel
theorem dX6_touch_257 : decode cX6_touch 257 = .ok (.iload 9, 2) := by decide +kernel
theorem dX6_touch_259 : decode cX6_touch 259 = .ok (.iload 9, 2) := by decide +kernel
theorem dX6_touch_261 : decode cX6_touch 261 = .ok (.imul, 1) := by decide +kernel
theorem dX6_touch_262 : decode cX6_touch 262 = .ok (.if_icmp .ge 22, 3) := by decide +kernel
theorem dX6_touch_265 : decode cX6_touch 265 = .ok (.iload 14, 2) := by decide +kernel
theorem dX6_touch_267 : decode cX6_touch 267 = .ok (.ifCond .eq 13, 3) := by decide +kernel
theorem dX6_touch_270 : decode cX6_touch 270 = .ok (.iload 7, 2) := by decide +kernel
theorem dX6_touch_272 : decode cX6_touch 272 = .ok (.iload 13, 2) := by decide +kernel
theorem dX6_touch_274 : decode cX6_touch 274 = .ok (.iload 13, 2) := by decide +kernel
theorem dX6_touch_276 : decode cX6_touch 276 = .ok (.imul, 1) := by decide +kernel
theorem dX6_touch_277 : decode cX6_touch 277 = .ok (.if_icmp .le 7, 3) := by decide +kernel
theorem dX6_touch_280 : decode cX6_touch 280 = .ok (.iconst 1, 1) := by decide +kernel
theorem dX6_touch_281 : decode cX6_touch 281 = .ok (.goto 4, 3) := by decide +kernel
theorem dX6_touch_284 : decode cX6_touch 284 = .ok (.iconst 0, 1) := by decide +kernel
theorem dX6_touch_285 : decode cX6_touch 285 = .ok (.ireturn, 1) := by decide +kernel
theorem dX6_meshOn_0 : decode cX6_meshOn 0 = .ok (.aload_n 0, 1) := by decide +kernel
theorem dX6_meshOn_1 : decode cX6_meshOn 1 = .ok (.iload_n 1, 1) := by decide +kernel
theorem dX6_meshOn_2 : decode cX6_meshOn 2 = .ok (.iload_n 2, 1) := by decide +kernel
theorem dX6_meshOn_3 : decode cX6_meshOn 3 = .ok (.iload_n 3, 1) := by decide +kernel
theorem dX6_meshOn_4 : decode cX6_meshOn 4 = .ok (.iconst 1, 1) := by decide +kernel
theorem dX6_meshOn_5 : decode cX6_meshOn 5 = .ok (.invokevirtual 66, 3) := by decide +kernel
theorem dX6_meshOn_8 : decode cX6_meshOn 8 = .ok (.ireturn, 1) := by decide +kernel
theorem dX6_meshed_0 : decode cX6_meshed 0 = .ok (.aload_n 0, 1) := by decide +kernel
theorem dX6_meshed_1 : decode cX6_meshed 1 = .ok (.iload_n 1, 1) := by decide +kernel
theorem dX6_meshed_2 : decode cX6_meshed 2 = .ok (.iload_n 2, 1) := by decide +kernel
theorem dX6_meshed_3 : decode cX6_meshed 3 = .ok (.iconst 0, 1) := by decide +kernel
theorem dX6_meshed_4 : decode cX6_meshed 4 = .ok (.invokevirtual 70, 3) := by decide +kernel
theorem dX6_meshed_7 : decode cX6_meshed 7 = .ok (.ifCond .eq 7, 3) := by decide +kernel
theorem dX6_meshed_10 : decode cX6_meshed 10 = .ok (.iconst 1, 1) := by decide +kernel
theorem dX6_meshed_11 : decode cX6_meshed 11 = .ok (.goto 4, 3) := by decide +kernel
theorem dX6_meshed_14 : decode cX6_meshed 14 = .ok (.iconst 0, 1) := by decide +kernel
theorem dX6_meshed_15 : decode cX6_meshed 15 = .ok (.aload_n 0, 1) := by decide +kernel
theorem dX6_meshed_16 : decode cX6_meshed 16 = .ok (.iload_n 1, 1) := by decide +kernel
theorem dX6_meshed_17 : decode cX6_meshed 17 = .ok (.iload_n 2, 1) := by decide +kernel
theorem dX6_meshed_18 : decode cX6_meshed 18 = .ok (.iconst 1, 1) := by decide +kernel
theorem dX6_meshed_19 : decode cX6_meshed 19 = .ok (.invokevirtual 70, 3) := by decide +kernel
theorem dX6_meshed_22 : decode cX6_meshed 22 = .ok (.ifCond .eq 7, 3) := by decide +kernel
theorem dX6_meshed_25 : decode cX6_meshed 25 = .ok (.iconst 2, 1) := by decide +kernel
theorem dX6_meshed_26 : decode cX6_meshed 26 = .ok (.goto 4, 3) := by decide +kernel
theorem dX6_meshed_29 : decode cX6_meshed 29 = .ok (.iconst 0, 1) := by decide +kernel
theorem dX6_meshed_30 : decode cX6_meshed 30 = .ok (.iadd, 1) := by decide +kernel
theorem dX6_meshed_31 : decode cX6_meshed 31 = .ok (.ireturn, 1) := by decide +kernel
theorem dX6_partners_0 : decode cX6_partners 0 = .ok (.iconst 0, 1) := by decide +kernel
theorem dX6_partners_1 : decode cX6_partners 1 = .ok (.istore_n 3, 1) := by decide +kernel
theorem dX6_partners_2 : decode cX6_partners 2 = .ok (.iconst 0, 1) := by decide +kernel
theorem dX6_partners_3 : decode cX6_partners 3 = .ok (.istore 4, 2) := by decide +kernel
theorem dX6_partners_5 : decode cX6_partners 5 = .ok (.iload 4, 2) := by decide +kernel
theorem dX6_partners_7 : decode cX6_partners 7 = .ok (.aload_n 0, 1) := by decide +kernel
theorem dX6_partners_8 : decode cX6_partners 8 = .ok (.getfield 7, 3) := by decide +kernel
theorem dX6_partners_11 : decode cX6_partners 11 = .ok (.iconst 0, 1) := by decide +kernel
theorem dX6_partners_12 : decode cX6_partners 12 = .ok (.iaload, 1) := by decide +kernel
theorem dX6_partners_13 : decode cX6_partners 13 = .ok (.if_icmp .ge 29, 3) := by decide +kernel
theorem dX6_partners_16 : decode cX6_partners 16 = .ok (.iload_n 3, 1) := by decide +kernel
theorem dX6_partners_17 : decode cX6_partners 17 = .ok (.aload_n 0, 1) := by decide +kernel
theorem dX6_partners_18 : decode cX6_partners 18 = .ok (.iload_n 1, 1) := by decide +kernel
theorem dX6_partners_19 : decode cX6_partners 19 = .ok (.iload 4, 2) := by decide +kernel
theorem dX6_partners_21 : decode cX6_partners 21 = .ok (.invokevirtual 73, 3) := by decide +kernel
theorem dX6_partners_24 : decode cX6_partners 24 = .ok (.iload_n 2, 1) := by decide +kernel
theorem dX6_partners_25 : decode cX6_partners 25 = .ok (.iand, 1) := by decide +kernel
theorem dX6_partners_26 : decode cX6_partners 26 = .ok (.ifCond .le 7, 3) := by decide +kernel
theorem dX6_partners_29 : decode cX6_partners 29 = .ok (.iconst 1, 1) := by decide +kernel
theorem dX6_partners_30 : decode cX6_partners 30 = .ok (.goto 4, 3) := by decide +kernel
theorem dX6_partners_33 : decode cX6_partners 33 = .ok (.iconst 0, 1) := by decide +kernel
theorem dX6_partners_34 : decode cX6_partners 34 = .ok (.iadd, 1) := by decide +kernel
theorem dX6_partners_35 : decode cX6_partners 35 = .ok (.istore_n 3, 1) := by decide +kernel
theorem dX6_partners_36 : decode cX6_partners 36 = .ok (.iinc 4 1, 3) := by decide +kernel
theorem dX6_partners_39 : decode cX6_partners 39 = .ok (.goto (-34), 3) := by decide +kernel
theorem dX6_partners_42 : decode cX6_partners 42 = .ok (.iload_n 3, 1) := by decide +kernel
theorem dX6_partners_43 : decode cX6_partners 43 = .ok (.ireturn, 1) := by decide +kernel
theorem dX6_overlaps_0 : decode cX6_overlaps 0 = .ok (.iconst 0, 1) := by decide +kernel
theorem dX6_overlaps_1 : decode cX6_overlaps 1 = .ok (.istore_n 3, 1) := by decide +kernel
theorem dX6_overlaps_2 : decode cX6_overlaps 2 = .ok (.iconst 0, 1) := by decide +kernel
theorem dX6_overlaps_3 : decode cX6_overlaps 3 = .ok (.istore 4, 2) := by decide +kernel
theorem dX6_overlaps_5 : decode cX6_overlaps 5 = .ok (.iload 4, 2) := by decide +kernel
theorem dX6_overlaps_7 : decode cX6_overlaps 7 = .ok (.aload_n 0, 1) := by decide +kernel
theorem dX6_overlaps_8 : decode cX6_overlaps 8 = .ok (.getfield 7, 3) := by decide +kernel
theorem dX6_overlaps_11 : decode cX6_overlaps 11 = .ok (.iconst 0, 1) := by decide +kernel
theorem dX6_overlaps_12 : decode cX6_overlaps 12 = .ok (.iaload, 1) := by decide +kernel
theorem dX6_overlaps_13 : decode cX6_overlaps 13 = .ok (.if_icmp .ge 29, 3) := by decide +kernel
theorem dX6_overlaps_16 : decode cX6_overlaps 16 = .ok (.iload_n 3, 1) := by decide +kernel
theorem dX6_overlaps_17 : decode cX6_overlaps 17 = .ok (.aload_n 0, 1) := by decide +kernel
theorem dX6_overlaps_18 : decode cX6_overlaps 18 = .ok (.iload_n 1, 1) := by decide +kernel
theorem dX6_overlaps_19 : decode cX6_overlaps 19 = .ok (.iload 4, 2) := by decide +kernel
theorem dX6_overlaps_21 : decode cX6_overlaps 21 = .ok (.iload_n 2, 1) := by decide +kernel
theorem dX6_overlaps_22 : decode cX6_overlaps 22 = .ok (.iconst 0, 1) := by decide +kernel
theorem dX6_overlaps_23 : decode cX6_overlaps 23 = .ok (.invokevirtual 66, 3) := by decide +kernel
theorem dX6_overlaps_26 : decode cX6_overlaps 26 = .ok (.ifCond .eq 7, 3) := by decide +kernel
theorem dX6_overlaps_29 : decode cX6_overlaps 29 = .ok (.iconst 1, 1) := by decide +kernel
theorem dX6_overlaps_30 : decode cX6_overlaps 30 = .ok (.goto 4, 3) := by decide +kernel
theorem dX6_overlaps_33 : decode cX6_overlaps 33 = .ok (.iconst 0, 1) := by decide +kernel
theorem dX6_overlaps_34 : decode cX6_overlaps 34 = .ok (.iadd, 1) := by decide +kernel
theorem dX6_overlaps_35 : decode cX6_overlaps 35 = .ok (.istore_n 3, 1) := by decide +kernel
theorem dX6_overlaps_36 : decode cX6_overlaps 36 = .ok (.iinc 4 1, 3) := by decide +kernel
theorem dX6_overlaps_39 : decode cX6_overlaps 39 = .ok (.goto (-34), 3) := by decide +kernel
theorem dX6_overlaps_42 : decode cX6_overlaps 42 = .ok (.iload_n 3, 1) := by decide +kernel
theorem dX6_overlaps_43 : decode cX6_overlaps 43 = .ok (.ireturn, 1) := by decide +kernel
theorem dX6_put_0 : decode cX6_put 0 = .ok (.aload_n 0, 1) := by decide +kernel
theorem dX6_put_1 : decode cX6_put 1 = .ok (.getfield 7, 3) := by decide +kernel
theorem dX6_put_4 : decode cX6_put 4 = .ok (.bipush 19, 2) := by decide +kernel
theorem dX6_put_6 : decode cX6_put 6 = .ok (.iconst 2, 1) := by decide +kernel
theorem dX6_put_7 : decode cX6_put 7 = .ok (.iload_n 1, 1) := by decide +kernel
theorem dX6_put_8 : decode cX6_put 8 = .ok (.imul, 1) := by decide +kernel
theorem dX6_put_9 : decode cX6_put 9 = .ok (.iadd, 1) := by decide +kernel
theorem dX6_put_10 : decode cX6_put 10 = .ok (.iload_n 2, 1) := by decide +kernel
theorem dX6_put_11 : decode cX6_put 11 = .ok (.iadd, 1) := by decide +kernel
theorem dX6_put_12 : decode cX6_put 12 = .ok (.iload 4, 2) := by decide +kernel
theorem dX6_put_14 : decode cX6_put 14 = .ok (.ifCond .ne 7, 3) := by decide +kernel
theorem dX6_put_17 : decode cX6_put 17 = .ok (.iconst 0, 1) := by decide +kernel
theorem dX6_put_18 : decode cX6_put 18 = .ok (.goto 4, 3) := by decide +kernel
theorem dX6_put_21 : decode cX6_put 21 = .ok (.iload_n 3, 1) := by decide +kernel
theorem dX6_put_22 : decode cX6_put 22 = .ok (.iastore, 1) := by decide +kernel
theorem dX6_put_23 : decode cX6_put 23 = .ok (.aload_n 0, 1) := by decide +kernel
theorem dX6_put_24 : decode cX6_put 24 = .ok (.getfield 7, 3) := by decide +kernel
theorem dX6_put_27 : decode cX6_put 27 = .ok (.bipush 37, 2) := by decide +kernel
theorem dX6_put_29 : decode cX6_put 29 = .ok (.iconst 2, 1) := by decide +kernel
theorem dX6_put_30 : decode cX6_put 30 = .ok (.iload_n 1, 1) := by decide +kernel
theorem dX6_put_31 : decode cX6_put 31 = .ok (.imul, 1) := by decide +kernel
theorem dX6_put_32 : decode cX6_put 32 = .ok (.iadd, 1) := by decide +kernel
theorem dX6_put_33 : decode cX6_put 33 = .ok (.iload_n 2, 1) := by decide +kernel
theorem dX6_put_34 : decode cX6_put 34 = .ok (.iadd, 1) := by decide +kernel
theorem dX6_put_35 : decode cX6_put 35 = .ok (.iload 4, 2) := by decide +kernel
theorem dX6_put_37 : decode cX6_put 37 = .ok (.iastore, 1) := by decide +kernel
theorem dX6_put_38 : decode cX6_put 38 = .ok (.return_, 1) := by decide +kernel
theorem dX6_common_0 : decode cX6_common 0 = .ok (.lload_n 0, 1) := by decide +kernel
theorem dX6_common_1 : decode cX6_common 1 = .ok (.lconst 0, 1) := by decide +kernel
theorem dX6_common_2 : decode cX6_common 2 = .ok (.lcmp, 1) := by decide +kernel
theorem dX6_common_3 : decode cX6_common 3 = .ok (.ifCond .ge 8, 3) := by decide +kernel
theorem dX6_common_6 : decode cX6_common 6 = .ok (.lload_n 0, 1) := by decide +kernel
theorem dX6_common_7 : decode cX6_common 7 = .ok (.lneg, 1) := by decide +kernel
theorem dX6_common_8 : decode cX6_common 8 = .ok (.goto 4, 3) := by decide +kernel
theorem dX6_common_11 : decode cX6_common 11 = .ok (.lload_n 0, 1) := by decide +kernel
theorem dX6_common_12 : decode cX6_common 12 = .ok (.lstore 4, 2) := by decide +kernel
theorem dX6_common_14 : decode cX6_common 14 = .ok (.lload_n 2, 1) := by decide +kernel
theorem dX6_common_15 : decode cX6_common 15 = .ok (.lstore 6, 2) := by decide +kernel
theorem dX6_common_17 : decode cX6_common 17 = .ok (.lload 6, 2) := by decide +kernel
theorem dX6_common_19 : decode cX6_common 19 = .ok (.lconst 0, 1) := by decide +kernel
theorem dX6_common_20 : decode cX6_common 20 = .ok (.lcmp, 1) := by decide +kernel
theorem dX6_common_21 : decode cX6_common 21 = .ok (.ifCond .eq 21, 3) := by decide +kernel
theorem dX6_common_24 : decode cX6_common 24 = .ok (.lload 4, 2) := by decide +kernel
theorem dX6_common_26 : decode cX6_common 26 = .ok (.lload 6, 2) := by decide +kernel
theorem dX6_common_28 : decode cX6_common 28 = .ok (.lrem, 1) := by decide +kernel
theorem dX6_common_29 : decode cX6_common 29 = .ok (.lstore 8, 2) := by decide +kernel
theorem dX6_common_31 : decode cX6_common 31 = .ok (.lload 6, 2) := by decide +kernel
theorem dX6_common_33 : decode cX6_common 33 = .ok (.lstore 4, 2) := by decide +kernel
theorem dX6_common_35 : decode cX6_common 35 = .ok (.lload 8, 2) := by decide +kernel
theorem dX6_common_37 : decode cX6_common 37 = .ok (.lstore 6, 2) := by decide +kernel
theorem dX6_common_39 : decode cX6_common 39 = .ok (.goto (-22), 3) := by decide +kernel
theorem dX6_common_42 : decode cX6_common 42 = .ok (.lload 4, 2) := by decide +kernel
theorem dX6_common_44 : decode cX6_common 44 = .ok (.lreturn, 1) := by decide +kernel
theorem dX6_goOn_0 : decode cX6_goOn 0 = .ok (.aload_n 0, 1) := by decide +kernel
theorem dX6_goOn_1 : decode cX6_goOn 1 = .ok (.iload 5, 2) := by decide +kernel
theorem dX6_goOn_3 : decode cX6_goOn 3 = .ok (.iload 7, 2) := by decide +kernel
theorem dX6_goOn_5 : decode cX6_goOn 5 = .ok (.invokevirtual 53, 3) := by decide +kernel
theorem dX6_goOn_8 : decode cX6_goOn 8 = .ok (.iconst 1, 1) := by decide +kernel
theorem dX6_goOn_9 : decode cX6_goOn 9 = .ok (.if_icmp .ne 19, 3) := by decide +kernel
theorem dX6_goOn_12 : decode cX6_goOn 12 = .ok (.aload_n 0, 1) := by decide +kernel
theorem dX6_goOn_13 : decode cX6_goOn 13 = .ok (.iload 6, 2) := by decide +kernel
theorem dX6_goOn_15 : decode cX6_goOn 15 = .ok (.iload 7, 2) := by decide +kernel
theorem dX6_goOn_17 : decode cX6_goOn 17 = .ok (.invokevirtual 53, 3) := by decide +kernel
theorem dX6_goOn_20 : decode cX6_goOn 20 = .ok (.iconst 1, 1) := by decide +kernel
theorem dX6_goOn_21 : decode cX6_goOn 21 = .ok (.if_icmp .ne 7, 3) := by decide +kernel
